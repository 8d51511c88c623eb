/** Promise 19: settle. */
public final class P19SettleTest {
    public static void main(String[] args) {
        Due due = new Due();
        none(due);
        itWas(due);
        itWasNot(due);
        onlyOnce(due);
        whenLocked(due);
        everyCutInARecord(due);
        everyCutInASector(due);
        withoutPower(due);
        due.end();
    }

    private static void none(Due due) {
        due.of("NO: none is");
        refused(due, new FrankDesk(77));
        FrankDesk x = Desk.filled(1000);
        x.frank(0, 1, 1);
        refused(due, x);
        FrankDesk y = Desk.filled(1000);
        y.cut(4, 0);
        y.frank(0, 1, 1);
        y.mount();
        refused(due, y);
    }

    private static void refused(Due due, FrankDesk x) {
        int records = x.mount();
        long descending = x.book(1);
        due.is("settle(true)", x.settle(true), 0);
        due.is("settle(false)", x.settle(false), 0);
        due.is("records", x.mount(), records);
        due.is("descending", x.book(1), descending);
        due.is("claimed", x.book(3), 0);
    }

    private static void itWas(Due due) {
        due.of("record 3 (a 1, if so)");
        FrankDesk x = Desk.uncertainAbout(1000, 10);
        due.is("settle(true)", x.settle(true), 1);
        Desk.record(due, x, 0, 2, 3, 3, 1, 0);
        long[] books = {10, 990, 1000, 0, 1, 0};
        for (int what = 0; what < books.length; what++) {
            due.is("book(" + what + ")", x.book(what), books[what]);
        }
        due.is("sound()", x.sound(), 1);
    }

    private static void itWasNot(Due due) {
        due.of("record 3 (a 0, if not)");
        for (int cents : new int[] {1, 10, 1000}) {
            FrankDesk x = Desk.uncertainAbout(1000, cents);
            due.is("settle(false)", x.settle(false), 1);
            Desk.record(due, x, 0, 2, 3, 3, 0, 0);
            long[] books = {cents, 1000, 1000, cents, 1, 0};
            for (int what = 0; what < books.length; what++) {
                due.is("book(" + what + ")", x.book(what), books[what]);
            }
            due.is("cents of the department", x.counter(2, 1), cents);
            due.is("cents of the day", x.dayTotal(7, 1), cents);
            due.is("sound()", x.sound(), 1);
            due.is("all of it can be franked again", x.frank(0, 1000, 1), 1);
        }
    }

    private static void onlyOnce(Due due) {
        due.of("NO: none is any more");
        for (int said = 0; said < 2; said++) {
            FrankDesk x = Desk.uncertainAbout(1000, 10);
            x.settle(said == 1);
            due.is("settle(true) again", x.settle(true), 0);
            due.is("settle(false) again", x.settle(false), 0);
            due.is("records", x.mount(), 3);
            Desk.cycle(x);
            due.is("settle(false) behind a cut", x.settle(false), 0);
            due.is("claimed", x.book(3), said == 1 ? 0 : 10);
        }
    }

    private static void whenLocked(Due due) {
        due.of("NO, for no other reason: not when it is locked");
        FrankDesk x = Desk.uncertainAbout(1000, 10);
        x.lock();
        due.is("settle(false)", x.settle(false), 1);
        due.is("book(7)", x.book(7), 1);
    }

    private static void everyCutInARecord(Due due) {
        due.of("CUT: power failed in it");
        for (int left = 0; left <= 5; left++) {
            cutIn(due, 0, left, 5);
        }
    }

    private static void everyCutInASector(Due due) {
        due.of("CUT: power failed in it, where it needs a new sector");
        for (int left = 0; left <= 200; left++) {
            cutIn(due, 10, left, 200);
        }
    }

    private static void cutIn(Due due, int records, int left, int needed) {
        FrankDesk x = Desk.uncertainAbout(1000, 10);
        Desk.writeMany(x, records);
        x.cut(left, 0);
        boolean whole = left >= needed;
        due.is("settle with " + left + " left", x.settle(false), whole ? 1 : FrankDesk.CUT);
        due.is("mount()", x.mount(), 2 + records + (whole ? 1 : 0));
        due.is("uncertain()", x.uncertain(), whole ? 0 : 1);
        due.is("claimed", x.book(3), whole ? 10 : 0);
        due.is("descending", x.book(1), whole ? 1000 : 990);
        x.cut(100_000, 0);
        due.is("settle then", x.settle(true), whole ? 0 : 1);
    }

    private static void withoutPower(Due due) {
        due.of("CUT (no power)");
        FrankDesk x = Desk.uncertainAbout(1000, 10);
        Desk.powerOff(x);
        due.is("settle(true)", x.settle(true), FrankDesk.CUT);
        due.is("settle(false)", x.settle(false), FrankDesk.CUT);
        x.mount();
        due.is("uncertain()", x.uncertain(), 1);
        FrankDesk y = Desk.filled(1000);
        Desk.powerOff(y);
        due.is("settle(true) where none is", y.settle(true), FrankDesk.CUT);
    }
}
