/** Terms: the books, word by word. */
public final class T06BooksTest {
    private static final int BOOKS_AT = 2, DEPARTMENTS_AT = 17, DAYS_AT = 65;

    public static void main(String[] args) {
        Due due = new Due();
        atFirst(due);
        registers(due);
        lockedOrNot(due);
        uncertain(due);
        departments(due);
        days(due);
        readBack(due);
        due.end();
    }

    private static void atFirst(Due due) {
        due.of("At first all else is 0, but the inspection day 1,000; the day (all ones: none)");
        FrankDesk x = new FrankDesk(77);
        for (int i = BOOKS_AT; i <= 192; i++) {
            boolean isDay = i >= DAYS_AT && (i - DAYS_AT) % 4 == 0;
            due.is("word(0, " + i + ")", x.word(0, i), i == 14 ? 1000 : isDay ? Desk.ALL_ONES : 0);
        }
    }

    private static void expect(Due due, FrankDesk x, int sector, int from, int... words) {
        for (int i = 0; i < words.length; i++) {
            due.is("word(" + sector + ", " + (from + i) + ")", x.word(sector, from + i), words[i]);
        }
    }

    private static void registers(Due due) {
        due.of("ascending (2), descending (2), loaded (2), claimed (2), pieces, claims, the refill counter, whether it is "
                + "locked (1 or 0), the inspection day, the table's version");
        FrankDesk x = Desk.filled(5000);
        Desk.frankMany(x, 100, 20);
        x.claimBack(1, 7);
        Desk.fill(x, 11);
        x.inspect(1234);
        x.loadTable(56);
        x.lock();
        // 206 records: ten more fill the 18th sector, and the one behind them starts sector 2 for the second time.
        for (int i = 0; i < 11; i++) {
            x.inspect(1234);
        }
        expect(due, x, 2, 0, 19, 216);
        expect(due, x, 2, BOOKS_AT, 2000, 0, 3018, 0, 5011, 0, 7, 0, 100, 1, 2, 1, 1234, 56, 0);
    }

    private static void lockedOrNot(Due due) {
        due.of("whether it is locked (1 or 0)");
        FrankDesk x = Desk.filled(5000);
        x.lock();
        x.unlock(x.codeFor(1, 0));
        Desk.writeMany(x, 10);
        due.is("locked and unlocked", x.word(1, 13), 0);
        x.lock();
        Desk.writeMany(x, 11);
        due.is("locked", x.word(2, 13), 1);
    }

    private static void uncertain(Due due) {
        due.of("the cents of the piece that is uncertain (0: none)");
        for (int cents : new int[] {1, 999_999_999}) {
            FrankDesk x = Desk.uncertainAbout(999_999_999, cents);
            Desk.writeMany(x, 11);
            due.is("uncertain", x.word(1, 16), cents);
            x.settle(true);
            Desk.writeMany(x, 11);
            due.is("uncertain when settled", x.word(2, 16), 0);
        }
    }

    private static void departments(Due due) {
        due.of("for each of 16 departments its pieces, and cents (2)");
        for (int department = 0; department < 16; department++) {
            FrankDesk x = Desk.filled(5000);
            x.frank(department, 30, 1);
            x.frank(department, 40, 1);
            Desk.writeMany(x, 8);
            for (int d = 0; d < 16; d++) {
                boolean used = d == department;
                expect(due, x, 1, DEPARTMENTS_AT + 3 * d, used ? 2 : 0, used ? 70 : 0, 0);
            }
        }
    }

    private static void days(Due due) {
        due.of("for each of 32 places of days the day (all ones: none), pieces, cents (2)");
        for (int day = 64; day < 96; day++) {
            FrankDesk x = Desk.filled(5000);
            x.frank(0, 30, day);
            x.frank(1, 40, day);
            Desk.writeMany(x, 8);
            for (int place = 0; place < 32; place++) {
                boolean used = place == day - 64;
                expect(due, x, 1, DAYS_AT + 4 * place, used ? day : Desk.ALL_ONES, used ? 2 : 0, used ? 70 : 0, 0);
            }
        }
    }

    /** All departments and places at once, seen by calls behind a cut. */
    private static void readBack(Due due) {
        due.of("2 .. 192 the books");
        FrankDesk x = Desk.filled(100_000);
        for (int i = 0; i < 32; i++) {
            x.frank(i % 16, 100 + i, 32 + i);
        }
        Desk.cycle(x);
        for (int i = 0; i < 32; i++) {
            due.is("pieces of day " + (32 + i), x.dayTotal(32 + i, 0), 1);
            due.is("cents of day " + (32 + i), x.dayTotal(32 + i, 1), 100 + i);
            due.is("day " + i, x.dayTotal(i, 0), 0);
            due.is("pieces of department " + i % 16, x.counter(i % 16, 0), 2);
            due.is("cents of department " + i % 16, x.counter(i % 16, 1), 216 + 2 * (i % 16));
        }
    }
}
