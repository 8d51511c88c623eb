/** Promise 15: unlock. */
public final class P15UnlockTest {
    /** Of machine 77 and one refill. */
    private static final int CODE = 233_082;

    public static void main(String[] args) {
        Due due = new Due();
        record(due);
        notLocked(due);
        wrongCode(due);
        codeOfTheCounter(due);
        everyCutInARecord(due);
        everyCutInASector(due);
        withoutPower(due);
        due.end();
    }

    private static FrankDesk locked() {
        FrankDesk x = Desk.filled(5000);
        x.lock();
        return x;
    }

    private static void record(Due due) {
        due.of("Record 8. YES");
        FrankDesk x = locked();
        due.is("unlock", x.unlock(CODE), 1);
        Desk.record(due, x, 0, 2, 3, 8, 0, 0);
        due.is("book(7)", x.book(7), 0);
        due.is("frank", x.frank(0, 1, 1), 1);
    }

    private static void refused(Due due, FrankDesk x, int code) {
        int records = x.mount();
        long isLocked = x.book(7);
        due.is("unlock(" + code + ")", x.unlock(code), 0);
        due.is("records behind unlock(" + code + ")", x.mount(), records);
        due.is("book(7) behind unlock(" + code + ")", x.book(7), isLocked);
    }

    private static void notLocked(Due due) {
        due.of("NO: it is not locked");
        FrankDesk x = Desk.filled(5000);
        refused(due, x, CODE);
        x.lock();
        x.unlock(CODE);
        refused(due, x, CODE);
        Desk.cycle(x);
        refused(due, x, CODE);
        refused(due, new FrankDesk(77), (int) Desk.code(77, 0, 0));
    }

    private static void wrongCode(Due due) {
        due.of("NO: the code is not codeFor(counter, 0)");
        FrankDesk x = locked();
        refused(due, x, CODE - 1);
        refused(due, x, CODE + 1);
        refused(due, x, CODE + 1_000_000);
        refused(due, x, CODE - 1_000_000);
        refused(due, x, -CODE);
        refused(due, x, 0);
        refused(due, x, x.codeFor(1, 1));
        refused(due, x, x.codeFor(1, 5000));
        for (int odd : Desk.ODD_NUMBERS) {
            refused(due, x, odd);
        }
        due.is("the right one", x.unlock(CODE), 1);
    }

    private static void codeOfTheCounter(Due due) {
        due.of("codeFor(counter, 0): the counter as it is now");
        FrankDesk x = locked();
        refused(due, x, x.codeFor(0, 0));
        refused(due, x, x.codeFor(2, 0));
        Desk.fill(x, 10);
        refused(due, x, CODE);
        Desk.cycle(x);
        refused(due, x, CODE);
        due.is("the code of counter 2", x.unlock(x.codeFor(2, 0)), 1);
        FrankDesk y = new FrankDesk(77);
        y.lock();
        due.is("the code of counter 0", y.unlock(y.codeFor(0, 0)), 1);
        y.lock();
        due.is("the same code again", y.unlock(y.codeFor(0, 0)), 1);
    }

    private static void everyCutInARecord(Due due) {
        due.of("CUT: power failed in it");
        for (int left = 0; left <= 5; left++) {
            cutIn(due, 0, left, 5);
        }
    }

    private static void everyCutInASector(Due due) {
        due.of("CUT: power failed in it, where it needs a new sector");
        for (int left = 0; left <= 200; left++) {
            cutIn(due, 10, left, 200);
        }
    }

    private static void cutIn(Due due, int records, int left, int needed) {
        FrankDesk x = locked();
        Desk.writeMany(x, records);
        x.cut(left, 0);
        boolean whole = left >= needed;
        due.is("unlock with " + left + " left", x.unlock(CODE), whole ? 1 : FrankDesk.CUT);
        due.is("mount()", x.mount(), 2 + records + (whole ? 1 : 0));
        due.is("book(7)", x.book(7), whole ? 0 : 1);
    }

    private static void withoutPower(Due due) {
        due.of("CUT (no power)");
        FrankDesk x = locked();
        Desk.powerOff(x);
        due.is("unlock", x.unlock(CODE), FrankDesk.CUT);
        due.is("wrong unlock", x.unlock(1), FrankDesk.CUT);
        x.mount();
        due.is("book(7)", x.book(7), 1);
    }
}
