/** Promise 14: lock. */
public final class P14LockTest {
    public static void main(String[] args) {
        Due due = new Due();
        record(due);
        alreadyLocked(due);
        anew(due);
        uncertain(due);
        everyCutInARecord(due);
        everyCutInASector(due);
        withoutPower(due);
        due.end();
    }

    private static void record(Due due) {
        due.of("Record 7. YES");
        FrankDesk x = Desk.filled(100);
        due.is("lock()", x.lock(), 1);
        Desk.record(due, x, 0, 1, 2, 7, 0, 0);
        due.is("book(7)", x.book(7), 1);
        due.is("frank", x.frank(0, 1, 1), 0);
    }

    private static void alreadyLocked(Due due) {
        due.of("NO: it is locked");
        FrankDesk x = Desk.filled(100);
        x.lock();
        due.is("lock() again", x.lock(), 0);
        due.is("records", x.mount(), 2);
        due.is("book(7)", x.book(7), 1);
        Desk.cycle(x);
        due.is("lock() behind a cut", x.lock(), 0);
        due.is("records", x.mount(), 2);
    }

    private static void anew(Due due) {
        due.of("YES: it is not locked any more");
        FrankDesk x = Desk.filled(100);
        x.lock();
        x.unlock(x.codeFor(1, 0));
        due.is("lock()", x.lock(), 1);
        due.is("book(7)", x.book(7), 1);
        x.unlock(x.codeFor(1, 0));
        Desk.cycle(x);
        due.is("lock() behind a cut", x.lock(), 1);
    }

    private static void uncertain(Due due) {
        due.of("NO, for no other reason: not when some piece is uncertain");
        FrankDesk x = Desk.uncertainAbout(1000, 10);
        due.is("lock()", x.lock(), 1);
        due.is("uncertain()", x.uncertain(), 1);
    }

    private static void everyCutInARecord(Due due) {
        due.of("CUT: power failed in it");
        for (int left = 0; left <= 5; left++) {
            cutIn(due, 0, left, 5);
        }
    }

    private static void everyCutInASector(Due due) {
        due.of("CUT: power failed in it, where it needs a new sector");
        for (int left = 0; left <= 200; left++) {
            cutIn(due, 12, left, 200);
        }
    }

    private static void cutIn(Due due, int records, int left, int needed) {
        FrankDesk x = new FrankDesk(77);
        Desk.writeMany(x, records);
        x.cut(left, 0);
        boolean whole = left >= needed;
        due.is("lock() with " + left + " left", x.lock(), whole ? 1 : FrankDesk.CUT);
        due.is("mount()", x.mount(), whole ? records + 1 : records);
        due.is("book(7)", x.book(7), whole ? 1 : 0);
    }

    private static void withoutPower(Due due) {
        due.of("CUT (no power)");
        FrankDesk x = new FrankDesk(77);
        Desk.powerOff(x);
        due.is("lock()", x.lock(), FrankDesk.CUT);
        x.mount();
        due.is("book(7)", x.book(7), 0);
        x.lock();
        Desk.powerOff(x);
        due.is("lock() when locked", x.lock(), FrankDesk.CUT);
    }
}
