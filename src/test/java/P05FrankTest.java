/** Promise 5: frank. */
public final class P05FrankTest {
    public static void main(String[] args) {
        Due due = new Due();
        records(due);
        locked(due);
        inspectionDay(due);
        departments(due);
        days(due);
        cents(due);
        aboveDescending(due);
        uncertain(due);
        severalReasons(due);
        printedBetween(due);
        everyCutInASector(due);
        withoutPower(due);
        due.end();
    }

    private static void records(Due due) {
        due.of("record 1; it is printed; record 2");
        FrankDesk x = Desk.filled(1000);
        due.is("frank(3, 100, 40)", x.frank(3, 100, 40), 1);
        Desk.record(due, x, 0, 1, 2, 1, 100, 3 + 16 * 40);
        Desk.record(due, x, 0, 2, 3, 2, 0, 0);
        due.is("mark of record 1", x.word(0, 203), 1_521_144_053);
        due.is("mark of record 2", x.word(0, 208), 1_521_135_210);
        due.is("the place behind", x.word(0, 209), Desk.ALL_ONES);
        due.is("printed(0)", x.printed(0), 1);
        due.is("printed(1)", x.printed(1), 100);
        due.is("uncertain()", x.uncertain(), 0);
    }

    /** A refused piece is not written, not printed, and not booked. */
    private static void refused(Due due, FrankDesk x, int department, int cents, int day) {
        long pieces = x.printed(0);
        int records = x.mount();
        long ascending = x.book(0);
        String call = "frank(" + department + ", " + cents + ", " + day + ")";
        due.is(call, x.frank(department, cents, day), 0);
        due.is("printed(0) behind " + call, x.printed(0), pieces);
        due.is("records behind " + call, x.mount(), records);
        due.is("ascending behind " + call, x.book(0), ascending);
    }

    private static void locked(Due due) {
        due.of("NO: it is locked");
        FrankDesk x = Desk.filled(1000);
        x.lock();
        refused(due, x, 0, 1, 0);
        Desk.cycle(x);
        refused(due, x, 0, 1, 0);
        x.unlock(x.codeFor(1, 0));
        due.is("frank when not locked", x.frank(0, 1, 0), 1);
    }

    private static void inspectionDay(Due due) {
        due.of("NO: the day is behind the inspection day");
        FrankDesk x = Desk.filled(1000);
        for (int inspection : new int[] {1000, 1001, 5000, 99_999}) {
            x.inspect(inspection);
            due.is("the day before it", x.frank(0, 1, inspection - 1), 1);
            due.is("the day itself", x.frank(0, 1, inspection), 1);
            refused(due, x, 0, 1, inspection + 1);
        }
    }

    private static void departments(Due due) {
        due.of("NO: no such department (0 .. 15)");
        FrankDesk x = Desk.filled(1000);
        for (int department = 0; department < 16; department++) {
            due.is("department " + department, x.frank(department, 1, 0), 1);
        }
        refused(due, x, -1, 1, 0);
        refused(due, x, 16, 1, 0);
        refused(due, x, 17, 1, 0);
        for (int odd : Desk.ODD_NUMBERS) {
            refused(due, x, odd, 1, 0);
        }
    }

    private static void days(Due due) {
        due.of("NO: no such day (0 .. 100,000)");
        FrankDesk x = Desk.filled(1000);
        x.inspect(100_000);
        for (int day : new int[] {0, 1, 99_999, 100_000}) {
            due.is("day " + day, x.frank(0, 1, day), 1);
        }
        refused(due, x, 0, 1, -1);
        refused(due, x, 0, 1, 100_001);
        for (int odd : Desk.ODD_NUMBERS) {
            refused(due, x, 0, 1, odd);
        }
    }

    private static void cents(Due due) {
        due.of("NO: cents are not 1 .. 999,999,999");
        FrankDesk x = new FrankDesk(77);
        Desk.loadUpTo(x, 6_000_000_000L);
        for (int cents : new int[] {1, 2, 999_999_998, 999_999_999}) {
            due.is("frank of " + cents, x.frank(0, cents, 0), 1);
        }
        refused(due, x, 0, 0, 0);
        refused(due, x, 0, -1, 0);
        refused(due, x, 0, 1_000_000_000, 0);
        refused(due, x, 0, Integer.MAX_VALUE, 0);
        refused(due, x, 0, Integer.MIN_VALUE, 0);
    }

    private static void aboveDescending(Due due) {
        due.of("NO: cents are above descending");
        FrankDesk empty = new FrankDesk(77);
        refused(due, empty, 0, 1, 0);
        for (int filled : new int[] {1, 2, 1000, 999_999_998}) {
            FrankDesk x = Desk.filled(filled);
            refused(due, x, 0, filled + 1, 0);
            due.is("all of " + filled, x.frank(0, filled, 0), 1);
            due.is("descending", x.book(1), 0);
            refused(due, x, 0, 1, 0);
        }
        FrankDesk wide = new FrankDesk(77);
        Desk.loadUpTo(wide, 1L << 32);
        due.is("frank where the lower word of descending is 0", wide.frank(0, 1, 0), 1);
    }

    private static void uncertain(Due due) {
        due.of("NO: some piece is uncertain");
        for (int left = 5; left < 10; left++) {
            FrankDesk x = Desk.filled(1000);
            x.cut(left, 0);
            x.frank(2, 10, 7);
            x.mount();
            refused(due, x, 0, 1, 0);
            refused(due, x, 2, 10, 7);
            x.settle(left % 2 == 0);
            due.is("frank when it is settled", x.frank(0, 1, 0), 1);
        }
    }

    private static void severalReasons(Due due) {
        due.of("NO: several of these");
        FrankDesk x = Desk.uncertainAbout(1000, 10);
        x.lock();
        refused(due, x, 16, 0, 100_001);
        refused(due, x, 0, 1, 0);
        x.settle(true);
        refused(due, x, 0, 1, 0);
        x.unlock(x.codeFor(1, 0));
        refused(due, x, -1, -1, -1);
        due.is("none of them", x.frank(0, 1, 0), 1);
    }

    private static void printedBetween(Due due) {
        due.of("record 1; it is printed; record 2: a cut at each word of the records");
        for (int left = 0; left <= 10; left++) {
            FrankDesk x = Desk.filled(1000);
            x.cut(left, 0);
            due.is("frank with " + left + " left", x.frank(1, 100, 5), left == 10 ? 1 : FrankDesk.CUT);
            boolean booked = left >= 5;
            due.is("printed with " + left + " left", x.printed(0), booked ? 1 : 0);
            due.is("cents printed with " + left + " left", x.printed(1), booked ? 100 : 0);
            due.is("last record with " + left + " left", x.mount(), left == 10 ? 3 : booked ? 2 : 1);
            due.is("ascending with " + left + " left", x.book(0), booked ? 100 : 0);
            due.is("descending with " + left + " left", x.book(1), booked ? 900 : 1000);
            due.is("the department with " + left + " left", x.counter(1, 1), booked ? 100 : 0);
            due.is("the day with " + left + " left", x.dayTotal(5, 0), booked ? 1 : 0);
            due.is("uncertain with " + left + " left", x.uncertain(), booked && left < 10 ? 1 : 0);
            due.is("sound() with " + left + " left", x.sound(), 1);
        }
    }

    private static void everyCutInASector(Due due) {
        due.of("record 1; it is printed; record 2: a cut where record 1 needs a new sector");
        for (int left = 0; left <= 205; left++) {
            FrankDesk x = Desk.filled(1000);
            Desk.writeMany(x, 11);
            x.cut(left, 0x33333333);
            due.is("frank with " + left + " left", x.frank(1, 100, 5), left == 205 ? 1 : FrankDesk.CUT);
            boolean booked = left >= 200;
            due.is("printed with " + left + " left", x.printed(0), booked ? 1 : 0);
            due.is("last record with " + left + " left", x.mount(), left == 205 ? 14 : booked ? 13 : 12);
            due.is("ascending with " + left + " left", x.book(0), booked ? 100 : 0);
            due.is("uncertain with " + left + " left", x.uncertain(), booked && left < 205 ? 1 : 0);
        }
    }

    private static void withoutPower(Due due) {
        due.of("CUT (no power)");
        FrankDesk x = Desk.filled(1000);
        Desk.powerOff(x);
        due.is("frank", x.frank(1, 100, 5), FrankDesk.CUT);
        due.is("wrong frank", x.frank(-1, 0, -5), FrankDesk.CUT);
        due.is("printed(0)", x.printed(0), 0);
        x.mount();
        due.is("ascending", x.book(0), 0);
    }
}
