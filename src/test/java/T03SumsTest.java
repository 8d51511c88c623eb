/** Terms: sums of two words, at and beside the ends of the lower one. */
public final class T03SumsTest {
    private static final long[] ENDS = {1, (1L << 31) - 1, 1L << 31, (1L << 31) + 1, (1L << 32) - 1, 1L << 32, (1L << 32) + 1};
    private static final int ASCENDING = 2, DESCENDING = 4, LOADED = 6, CLAIMED = 8, DEPARTMENT_3 = 27, DAY_9 = 103;

    public static void main(String[] args) {
        Due due = new Due();
        for (long end : ENDS) {
            loaded(due, end);
            franked(due, end);
            claimed(due, end);
        }
        borrowed(due);
        due.end();
    }

    private static void sum(Due due, FrankDesk x, int sector, int at, long sum) {
        due.is("lower word " + at + " of " + sum, x.word(sector, at), (int) sum);
        due.is("upper word " + (at + 1) + " of " + sum, x.word(sector, at + 1), (int) (sum >>> 32));
    }

    private static void loaded(Due due, long end) {
        due.of("SUMS of several words have the lower 32 bits first: loaded, descending");
        FrankDesk x = new FrankDesk(77);
        Desk.loadUpTo(x, end);
        due.is("loaded", x.book(2), end);
        due.is("descending", x.book(1), end);
        Desk.writeMany(x, 13 - x.mount());
        sum(due, x, 1, DESCENDING, end);
        sum(due, x, 1, LOADED, end);
        Desk.cycle(x);
        due.is("loaded behind a cut", x.book(2), end);
        due.is("descending behind a cut", x.book(1), end);
        due.is("sound()", x.sound(), 1);
    }

    private static void franked(Due due, long end) {
        due.of("SUMS of several words have the lower 32 bits first: ascending, cents of departments and of days");
        FrankDesk x = new FrankDesk(77);
        Desk.loadUpTo(x, end);
        for (long franked = 0; franked < end; franked += 999_999_999) {
            x.frank(3, (int) Math.min(999_999_999, end - franked), 9);
        }
        seen(due, x, end);
        int sector = x.mount() < 12 ? 1 : 2;
        Desk.writeMany(x, 12 * sector + 1 - x.mount());
        sum(due, x, sector, ASCENDING, end);
        sum(due, x, sector, DESCENDING, 0);
        sum(due, x, sector, DEPARTMENT_3, end);
        sum(due, x, sector, DAY_9, end);
        Desk.cycle(x);
        seen(due, x, end);
    }

    private static void seen(Due due, FrankDesk x, long end) {
        due.is("ascending", x.book(0), end);
        due.is("descending", x.book(1), 0);
        due.is("cents of the department", x.counter(3, 1), end);
        due.is("cents of the day", x.dayTotal(9, 1), end);
        due.is("cents printed", x.printed(1), end);
        due.is("sound()", x.sound(), 1);
    }

    /** Cents come to claimed from pieces of which the clerk says that they were not printed. */
    private static void claimed(Due due, long end) {
        due.of("SUMS of several words have the lower 32 bits first: claimed");
        FrankDesk x = Desk.filled(999_999_999);
        for (long settled = 0; settled < end; settled += 999_999_999) {
            x.cut(5, 0);
            x.frank(0, (int) Math.min(999_999_999, end - settled), 1);
            x.mount();
            x.settle(false);
        }
        due.is("claimed", x.book(3), end);
        due.is("descending", x.book(1), 999_999_999);
        Desk.writeMany(x, 13 - x.mount());
        sum(due, x, 1, CLAIMED, end);
        Desk.cycle(x);
        due.is("claimed behind a cut", x.book(3), end);
        due.is("sound()", x.sound(), 1);
    }

    private static void borrowed(Due due) {
        due.of("SUMS of several words have the lower 32 bits first: descending becomes less");
        for (long end : ENDS) {
            FrankDesk x = new FrankDesk(77);
            Desk.loadUpTo(x, end);
            x.frank(0, 1, 0);
            due.is("descending", x.book(1), end - 1);
            Desk.writeMany(x, 13 - x.mount());
            sum(due, x, 1, DESCENDING, end - 1);
            Desk.cycle(x);
            due.is("descending behind a cut", x.book(1), end - 1);
        }
    }
}
