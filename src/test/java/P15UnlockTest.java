/** Promise 15: unlock. */
public final class P15UnlockTest {
    public static void main(String[] args) {
        Due due = new Due();
        FrankDesk x = Desk.filled(5000);
        due.is("unlock when not locked", x.unlock(233_082), 0);
        x.lock();
        due.is("unlock with a wrong code", x.unlock(233_083), 0);
        due.is("unlock with the code of counter 0", x.unlock(x.codeFor(0, 0)), 0);
        due.is("unlock with the code of a cent", x.unlock(x.codeFor(1, 1)), 0);
        for (int odd : Desk.ODD_NUMBERS) {
            due.is("unlock(" + odd + ")", x.unlock(odd), 0);
        }
        due.is("still locked", x.book(7), 1);
        due.is("no record", x.mount(), 2);
        due.is("unlock", x.unlock(233_082), 1);
        Desk.record(due, x, 0, 2, 3, 8, 0, 0);
        due.is("not locked", x.book(7), 0);
        due.is("unlock again", x.unlock(233_082), 0);
        due.is("frank", x.frank(0, 1, 1), 1);
        x.lock();
        Desk.fill(x, 10);
        due.is("unlock with the code of before the refill", x.unlock(233_082), 0);
        due.is("unlock with the code of now", x.unlock(x.codeFor(2, 0)), 1);
        everyCut(due);
        due.end();
    }

    private static void everyCut(Due due) {
        for (int left = 0; left <= 5; left++) {
            FrankDesk x = Desk.filled(5000);
            x.lock();
            x.cut(left, 0);
            due.is("unlock with " + left + " left", x.unlock(233_082), left == 5 ? 1 : -7);
            if (left < 5) {
                due.is("unlock without power", x.unlock(233_082), -7);
                due.is("wrong unlock without power", x.unlock(1), -7);
            }
            x.mount();
            due.is("book(7)", x.book(7), left == 5 ? 0 : 1);
        }
    }
}
