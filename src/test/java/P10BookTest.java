/** Promise 10: book. */
public final class P10BookTest {
    public static void main(String[] args) {
        Due due = new Due();
        all(due);
        lockedOrNot(due);
        anotherNumber(due);
        withoutPower(due);
        due.end();
    }

    private static FrankDesk used() {
        FrankDesk x = Desk.filled(999_999_999);
        Desk.frankMany(x, 100, 20);
        x.claimBack(3, 7);
        Desk.fill(x, 1);
        x.inspect(2345);
        x.loadTable(67);
        x.lock();
        return x;
    }

    private static void all(Due due) {
        due.of("0 ascending, 1 descending, 2 loaded, 3 claimed, 4 pieces, 5 claims, 6 the refill counter, 7 whether it is "
                + "locked, 8 the inspection day, 9 the version");
        long[] books = {2000, 999_998_007, 1_000_000_000, 7, 100, 1, 2, 1, 2345, 67};
        FrankDesk x = used();
        for (int what = 0; what < books.length; what++) {
            due.is("book(" + what + ")", x.book(what), books[what]);
        }
        Desk.cycle(x);
        for (int what = 0; what < books.length; what++) {
            due.is("book(" + what + ") behind a cut", x.book(what), books[what]);
        }
    }

    private static void lockedOrNot(Due due) {
        due.of("7 whether it is locked");
        FrankDesk x = new FrankDesk(77);
        due.is("book(7) at first", x.book(7), 0);
        x.lock();
        due.is("book(7) when locked", x.book(7), 1);
        x.unlock(x.codeFor(0, 0));
        due.is("book(7) when not locked any more", x.book(7), 0);
    }

    private static void anotherNumber(Due due) {
        due.of("BAD: another number");
        FrankDesk x = used();
        due.is("book(-1)", x.book(-1), -1);
        due.is("book(10)", x.book(10), -1);
        due.is("book(11)", x.book(11), -1);
        for (int odd : Desk.ODD_NUMBERS) {
            due.is("book(" + odd + ")", x.book(odd), -1);
        }
    }

    private static void withoutPower(Due due) {
        due.of("CUT (no power)");
        FrankDesk x = used();
        Desk.powerOff(x);
        for (int what = -1; what <= 10; what++) {
            due.is("book(" + what + ")", x.book(what), FrankDesk.CUT);
        }
    }
}
