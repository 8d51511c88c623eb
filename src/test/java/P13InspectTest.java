/** Promise 13: inspect. */
public final class P13InspectTest {
    public static void main(String[] args) {
        Due due = new Due();
        FrankDesk x = new FrankDesk(77);
        due.is("inspect(999)", x.inspect(999), 0);
        due.is("inspect(-1)", x.inspect(-1), 0);
        due.is("inspect(100001)", x.inspect(100_001), 0);
        for (int odd : Desk.ODD_NUMBERS) {
            due.is("inspect(" + odd + ")", x.inspect(odd), 0);
        }
        due.is("nothing was written", x.mount(), 0);
        due.is("inspect(1000)", x.inspect(1000), 1);
        Desk.record(due, x, 0, 0, 1, 6, 1000, 0);
        due.is("inspect(2000)", x.inspect(2000), 1);
        due.is("the inspection day", x.book(8), 2000);
        due.is("inspect(1999)", x.inspect(1999), 0);
        x.lock();
        due.is("inspect(100000) when locked", x.inspect(100_000), 1);
        due.is("the inspection day", x.book(8), 100_000);
        due.is("the last day again", x.inspect(100_000), 1);
        due.is("inspect(99999)", x.inspect(99_999), 0);
        everyCut(due);
        due.end();
    }

    private static void everyCut(Due due) {
        for (int left = 0; left <= 5; left++) {
            FrankDesk x = new FrankDesk(77);
            x.cut(left, 0);
            due.is("inspect with " + left + " left", x.inspect(3000), left == 5 ? 1 : -7);
            if (left < 5) {
                due.is("inspect without power", x.inspect(3000), -7);
                due.is("wrong inspect without power", x.inspect(-1), -7);
            }
            x.mount();
            due.is("the inspection day", x.book(8), left == 5 ? 3000 : 1000);
        }
    }
}
