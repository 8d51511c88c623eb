/** Promise 9: claimBack. */
public final class P09ClaimBackTest {
    public static void main(String[] args) {
        Due due = new Due();
        hundredPieces(due);
        edges(due);
        everyCut(due);
        due.end();
    }

    private static void hundredPieces(Due due) {
        FrankDesk x = Desk.filled(999_999_999);
        due.is("claimBack without a piece", x.claimBack(5, 10), 0);
        Desk.frankMany(x, 99, 20);
        due.is("claimBack of 99 pieces", x.claimBack(5, 10), 0);
        Desk.frankMany(x, 1, 20);
        due.is("claimBack of 100 pieces", x.claimBack(5, 10), 1);
        due.is("a second one", x.claimBack(5, 10), 0);
        due.is("claimed", x.book(3), 10);
        due.is("claims", x.book(5), 1);
        due.is("descending", x.book(1), 999_999_999 - 2000 + 10);
        due.is("ascending", x.book(0), 2000);
        due.is("loaded", x.book(2), 999_999_999);
        due.is("sound()", x.sound(), 1);
        Desk.frankMany(x, 99, 20);
        due.is("claimBack of 199 pieces", x.claimBack(5, 10), 0);
        Desk.frankMany(x, 1, 20);
        due.is("claimBack of 200 pieces", x.claimBack(5, 10), 1);
        due.is("claims", x.book(5), 2);
        Desk.powerOff(x);
        x.mount();
        due.is("claimed behind a cut", x.book(3), 20);
        due.is("claims behind a cut", x.book(5), 2);
    }

    private static FrankDesk ready() {
        FrankDesk x = Desk.filled(999_999_999);
        Desk.frankMany(x, 100, 20);
        return x;
    }

    private static void edges(Due due) {
        FrankDesk x = ready();
        due.is("no cents", x.claimBack(5, 0), 0);
        due.is("above ascending", x.claimBack(5, 2001), 0);
        due.is("day -1", x.claimBack(-1, 10), 0);
        due.is("day 100001", x.claimBack(100_001, 10), 0);
        for (int odd : Desk.ODD_NUMBERS) {
            due.is("day " + odd, x.claimBack(odd, 10), 0);
            due.is("cents " + odd, x.claimBack(5, odd), 0);
        }
        due.is("nothing was written", x.mount(), 201);
        due.is("all of ascending on the last day", x.claimBack(100_000, 2000), 1);
        // 201 records are 16 sectors of 12 and nine more, so this is the tenth of sector 0.
        Desk.record(due, x, 0, 9, 202, 5, 2000, 100_000);
        FrankDesk y = ready();
        y.lock();
        due.is("one cent on day 0, when locked", y.claimBack(0, 1), 1);
        mostCents(due);
    }

    private static void mostCents(Due due) {
        FrankDesk x = ready();
        Desk.fill(x, 999_999_999);
        Desk.fill(x, 999_999_999);
        Desk.frankMany(x, 2, 999_999_999);
        due.is("more than may be claimed", x.claimBack(0, 1_000_000_000), 0);
        due.is("all that may be claimed", x.claimBack(0, 999_999_999), 1);
        due.is("sound()", x.sound(), 1);
    }

    private static void everyCut(Due due) {
        for (int left = 0; left <= 5; left++) {
            FrankDesk x = ready();
            x.cut(left, 0);
            due.is("claimBack with " + left + " left", x.claimBack(5, 10), left == 5 ? 1 : -7);
            if (left < 5) {
                due.is("claimBack without power", x.claimBack(5, 10), -7);
                due.is("wrong claimBack without power", x.claimBack(-5, 0), -7);
            }
            x.mount();
            due.is("claims", x.book(5), left == 5 ? 1 : 0);
            due.is("claimed", x.book(3), left == 5 ? 10 : 0);
        }
    }
}
