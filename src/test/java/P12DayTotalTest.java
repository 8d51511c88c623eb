/** Promise 12: dayTotal. */
public final class P12DayTotalTest {
    public static void main(String[] args) {
        Due due = new Due();
        places(due);
        edges(due);
        allPlaces(due);
        moreThan32Bits(due);
        due.end();
    }

    private static void places(Due due) {
        FrankDesk x = Desk.filled(100_000);
        x.frank(1, 10, 100);
        x.frank(2, 20, 100);
        day(due, x, 100, 2, 30);
        x.frank(1, 5, 68);
        day(due, x, 68, 0, 0);
        day(due, x, 100, 2, 30);
        x.frank(1, 7, 132);
        day(due, x, 132, 1, 7);
        day(due, x, 100, 0, 0);
        x.frank(1, 8, 133);
        day(due, x, 133, 1, 8);
        day(due, x, 132, 1, 7);
        x.frank(1, 9, 0);
        day(due, x, 0, 1, 9);
        due.is("pieces of all days are booked", x.book(4), 6);
        Desk.powerOff(x);
        due.is("dayTotal without power", x.dayTotal(132, 0), -7);
        due.is("wrong dayTotal without power", x.dayTotal(-1, 2), -7);
        x.mount();
        day(due, x, 132, 1, 7);
        day(due, x, 133, 1, 8);
        day(due, x, 0, 1, 9);
        day(due, x, 68, 0, 0);
    }

    private static void day(Due due, FrankDesk x, int day, int pieces, int cents) {
        due.is("dayTotal(" + day + ", 0)", x.dayTotal(day, 0), pieces);
        due.is("dayTotal(" + day + ", 1)", x.dayTotal(day, 1), cents);
    }

    private static void edges(Due due) {
        FrankDesk x = Desk.filled(100_000);
        due.is("a day of none", x.dayTotal(0, 0), 0);
        due.is("the last day", x.dayTotal(100_000, 1), 0);
        due.is("day -1", x.dayTotal(-1, 0), -1);
        due.is("day 100001", x.dayTotal(100_001, 0), -1);
        due.is("what 2", x.dayTotal(5, 2), -1);
        due.is("what -1", x.dayTotal(5, -1), -1);
        for (int odd : Desk.ODD_NUMBERS) {
            due.is("day " + odd, x.dayTotal(odd, 0), -1);
            due.is("what " + odd, x.dayTotal(5, odd), -1);
        }
        x.inspect(100_000);
        x.frank(0, 3, 100_000);
        day(due, x, 100_000, 1, 3);
        x.frank(0, 4, 0);
        day(due, x, 0, 0, 0);
    }

    private static void moreThan32Bits(Due due) {
        FrankDesk x = new FrankDesk(77);
        for (int i = 0; i < 7; i++) {
            Desk.fill(x, 999_999_999);
            x.frank(4, 999_999_990, 9);
        }
        due.is("cents of day 9", x.dayTotal(9, 1), 6_999_999_930L);
        x.frank(4, 8, 41);
        day(due, x, 41, 1, 8);
        day(due, x, 9, 0, 0);
    }

    private static void allPlaces(Due due) {
        FrankDesk x = Desk.filled(100_000);
        for (int d = 0; d < 64; d++) {
            x.frank(0, 1 + d, d);
        }
        for (int d = 0; d < 64; d++) {
            day(due, x, d, d < 32 ? 0 : 1, d < 32 ? 0 : 1 + d);
        }
    }
}
