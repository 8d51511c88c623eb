/** Promise 5: frank. */
public final class P05FrankTest {
    public static void main(String[] args) {
        Due due = new Due();
        records(due);
        books(due);
        edges(due);
        lockedOrUncertain(due);
        everyCut(due);
        due.end();
    }

    private static void records(Due due) {
        FrankDesk x = Desk.filled(1000);
        due.is("frank(3, 100, 40)", x.frank(3, 100, 40), 1);
        Desk.record(due, x, 0, 1, 2, 1, 100, 3 + 16 * 40);
        Desk.record(due, x, 0, 2, 3, 2, 0, 0);
        due.is("mark of record 1", x.word(0, 203), 1521144053);
        due.is("mark of record 2", x.word(0, 208), 1521135210);
        due.is("the place behind", x.word(0, 209), Desk.ALL_ONES);
    }

    private static void books(Due due) {
        FrankDesk x = Desk.filled(1000);
        x.frank(3, 100, 40);
        x.frank(15, 1, 1000);
        due.is("ascending", x.book(0), 101);
        due.is("descending", x.book(1), 899);
        due.is("loaded", x.book(2), 1000);
        due.is("pieces", x.book(4), 2);
        due.is("cents of department 3", x.counter(3, 1), 100);
        due.is("cents of department 15", x.counter(15, 1), 1);
        due.is("pieces of department 15", x.counter(15, 0), 1);
        due.is("nothing is uncertain", x.uncertain(), 0);
    }

    private static void edges(Due due) {
        FrankDesk x = Desk.filled(1000);
        due.is("too much", x.frank(0, 1001, 0), 0);
        due.is("no cents", x.frank(0, 0, 0), 0);
        due.is("behind the inspection day", x.frank(0, 1, 1001), 0);
        due.is("no such department", x.frank(16, 1, 0), 0);
        for (int odd : Desk.ODD_NUMBERS) {
            due.is("department " + odd, x.frank(odd, 1, 0), 0);
            due.is("cents " + odd, x.frank(0, odd, 0), 0);
            due.is("day " + odd, x.frank(0, 1, odd), 0);
        }
        due.is("nothing was written", x.mount(), 1);
        due.is("nothing was printed", x.printed(0), 0);
        due.is("on the inspection day", x.frank(0, 1, 1000), 1);
        due.is("all that is left", x.frank(0, 999, 0), 1);
        due.is("nothing is left", x.frank(0, 1, 0), 0);
        x.inspect(100_000);
        Desk.fill(x, 999_999_999);
        Desk.fill(x, 999_999_999);
        due.is("more than a piece may cost", x.frank(0, 1_000_000_000, 0), 0);
        due.is("all that a piece may cost", x.frank(0, 999_999_999, 0), 1);
        due.is("the last day", x.frank(0, 1, 100_000), 1);
        due.is("the day behind it", x.frank(0, 1, 100_001), 0);
    }

    private static void lockedOrUncertain(Due due) {
        FrankDesk x = Desk.filled(1000);
        x.lock();
        due.is("frank when locked", x.frank(0, 1, 0), 0);
        x.unlock(x.codeFor(1, 0));
        due.is("frank when not locked", x.frank(0, 1, 0), 1);
        FrankDesk y = Desk.uncertainAbout(1000, 10);
        due.is("frank when a piece is uncertain", y.frank(0, 1, 0), 0);
        y.settle(true);
        due.is("frank when it is settled", y.frank(0, 1, 0), 1);
    }

    private static void everyCut(Due due) {
        for (int left = 0; left <= 10; left++) {
            FrankDesk x = Desk.filled(1000);
            x.cut(left, 0);
            due.is("frank with " + left + " left", x.frank(1, 100, 5), left == 10 ? 1 : -7);
            boolean booked = left >= 5;
            due.is("printed", x.printed(0), booked ? 1 : 0);
            due.is("cents printed", x.printed(1), booked ? 100 : 0);
            if (left < 10) {
                due.is("frank without power", x.frank(1, 100, 5), -7);
                due.is("wrong frank without power", x.frank(-1, 0, -5), -7);
            }
            due.is("last record with " + left + " left", x.mount(), left == 10 ? 3 : booked ? 2 : 1);
            due.is("ascending with " + left + " left", x.book(0), booked ? 100 : 0);
            due.is("uncertain with " + left + " left", x.uncertain(), booked && left < 10 ? 1 : 0);
            due.is("sound() with " + left + " left", x.sound(), 1);
        }
    }
}
