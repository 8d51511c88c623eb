/** Promise 13: inspect. */
public final class P13InspectTest {
    public static void main(String[] args) {
        Due due = new Due();
        record(due);
        noSuchDay(due);
        before(due);
        lastDay(due);
        lockedOrUncertain(due);
        everyCutInARecord(due);
        everyCutInASector(due);
        withoutPower(due);
        due.end();
    }

    private static void record(Due due) {
        due.of("Record 6. YES");
        FrankDesk x = new FrankDesk(77);
        due.is("inspect(2000)", x.inspect(2000), 1);
        Desk.record(due, x, 0, 0, 1, 6, 2000, 0);
        due.is("book(8)", x.book(8), 2000);
    }

    private static void refused(Due due, FrankDesk x, int day) {
        int records = x.mount();
        long inspection = x.book(8);
        due.is("inspect(" + day + ")", x.inspect(day), 0);
        due.is("records behind inspect(" + day + ")", x.mount(), records);
        due.is("book(8) behind inspect(" + day + ")", x.book(8), inspection);
    }

    private static void noSuchDay(Due due) {
        due.of("NO: not 0 .. 100,000");
        FrankDesk x = new FrankDesk(77);
        refused(due, x, -1);
        refused(due, x, 100_001);
        refused(due, x, 100_002);
        for (int odd : Desk.ODD_NUMBERS) {
            refused(due, x, odd);
        }
    }

    private static void before(Due due) {
        due.of("NO: before the inspection day");
        FrankDesk x = new FrankDesk(77);
        refused(due, x, 0);
        refused(due, x, 999);
        due.is("the first inspection day again", x.inspect(1000), 1);
        due.is("the day behind it", x.inspect(1001), 1);
        refused(due, x, 1000);
        due.is("the same day again", x.inspect(1001), 1);
        x.inspect(5000);
        refused(due, x, 4999);
        Desk.cycle(x);
        refused(due, x, 4999);
        due.is("the same day behind a cut", x.inspect(5000), 1);
    }

    private static void lastDay(Due due) {
        due.of("0 .. 100,000: the last day");
        FrankDesk x = new FrankDesk(77);
        due.is("inspect(99999)", x.inspect(99_999), 1);
        due.is("inspect(100000)", x.inspect(100_000), 1);
        due.is("inspect(100000) again", x.inspect(100_000), 1);
        due.is("book(8)", x.book(8), 100_000);
        refused(due, x, 99_999);
        refused(due, x, 100_001);
    }

    private static void lockedOrUncertain(Due due) {
        due.of("NO, for no other reason: not when it is locked, or some piece is uncertain");
        FrankDesk x = Desk.uncertainAbout(1000, 10);
        x.lock();
        due.is("inspect(1001)", x.inspect(1001), 1);
        due.is("uncertain()", x.uncertain(), 1);
        due.is("book(7)", x.book(7), 1);
    }

    private static void everyCutInARecord(Due due) {
        due.of("CUT: power failed in it");
        for (int left = 0; left <= 5; left++) {
            cutIn(due, 0, left, 5);
        }
    }

    private static void everyCutInASector(Due due) {
        due.of("CUT: power failed in it, where it needs a new sector");
        for (int left = 0; left <= 200; left++) {
            cutIn(due, 12, left, 200);
        }
    }

    private static void cutIn(Due due, int records, int left, int needed) {
        FrankDesk x = new FrankDesk(77);
        Desk.writeMany(x, records);
        x.cut(left, 0);
        boolean whole = left >= needed;
        due.is("inspect with " + left + " left", x.inspect(3000), whole ? 1 : FrankDesk.CUT);
        due.is("mount()", x.mount(), whole ? records + 1 : records);
        due.is("book(8)", x.book(8), whole ? 3000 : 1000);
    }

    private static void withoutPower(Due due) {
        due.of("CUT (no power)");
        FrankDesk x = new FrankDesk(77);
        Desk.powerOff(x);
        due.is("inspect(3000)", x.inspect(3000), FrankDesk.CUT);
        due.is("inspect(-1)", x.inspect(-1), FrankDesk.CUT);
        x.mount();
        due.is("book(8)", x.book(8), 1000);
    }
}
