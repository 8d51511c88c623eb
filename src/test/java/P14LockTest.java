/** Promise 14: lock. */
public final class P14LockTest {
    public static void main(String[] args) {
        Due due = new Due();
        FrankDesk x = Desk.filled(100);
        due.is("lock()", x.lock(), 1);
        Desk.record(due, x, 0, 1, 2, 7, 0, 0);
        due.is("book(7)", x.book(7), 1);
        due.is("lock() again", x.lock(), 0);
        due.is("one record", x.mount(), 2);
        due.is("frank", x.frank(0, 1, 1), 0);
        x.unlock(x.codeFor(1, 0));
        due.is("lock() anew", x.lock(), 1);
        everyCut(due);
        due.end();
    }

    private static void everyCut(Due due) {
        for (int left = 0; left <= 5; left++) {
            FrankDesk x = Desk.filled(100);
            x.cut(left, 0);
            due.is("lock with " + left + " left", x.lock(), left == 5 ? 1 : -7);
            if (left < 5) {
                due.is("lock without power", x.lock(), -7);
            }
            x.mount();
            due.is("book(7)", x.book(7), left == 5 ? 1 : 0);
        }
    }
}
