/** Promise 12: dayTotal. */
public final class P12DayTotalTest {
    public static void main(String[] args) {
        Due due = new Due();
        noDayKept(due);
        kept(due);
        usedAgain(due);
        notKeptAnyMore(due);
        allPlaces(due);
        lastDay(due);
        moreThan32Bits(due);
        noSuchDay(due);
        noSuchNumber(due);
        withoutPower(due);
        due.end();
    }

    private static void day(Due due, FrankDesk x, int day, long pieces, long cents) {
        due.is("dayTotal(" + day + ", 0)", x.dayTotal(day, 0), pieces);
        due.is("dayTotal(" + day + ", 1)", x.dayTotal(day, 1), cents);
    }

    private static void noDayKept(Due due) {
        due.of("0, if it is not kept: no day is");
        FrankDesk x = Desk.filled(1000);
        for (int d : new int[] {0, 1, 31, 32, 33, 999, 1000, 1001, 99_999, 100_000}) {
            day(due, x, d, 0, 0);
        }
    }

    private static void kept(Due due) {
        due.of("Of a day: 0 pieces, 1 cents");
        FrankDesk x = Desk.filled(1000);
        x.frank(1, 10, 100);
        x.frank(2, 20, 100);
        x.frank(2, 3, 101);
        day(due, x, 100, 2, 30);
        day(due, x, 101, 1, 3);
        Desk.cycle(x);
        day(due, x, 100, 2, 30);
        day(due, x, 101, 1, 3);
    }

    /** Days 68, 100 and 132 share a place. */
    private static void usedAgain(Due due) {
        due.of("0, if it is not kept: an earlier one in the place of a later one is not");
        FrankDesk x = Desk.filled(1000);
        x.frank(1, 10, 100);
        x.frank(1, 5, 68);
        day(due, x, 68, 0, 0);
        day(due, x, 100, 1, 10);
        x.frank(1, 5, 99);
        day(due, x, 99, 1, 5);
        due.is("but they are booked", x.book(4), 3);
        Desk.cycle(x);
        day(due, x, 68, 0, 0);
        day(due, x, 100, 1, 10);
    }

    private static void notKeptAnyMore(Due due) {
        due.of("0, if it is not kept: any more, when a later one has its place");
        FrankDesk x = Desk.filled(1000);
        x.frank(1, 10, 100);
        x.frank(1, 7, 132);
        day(due, x, 132, 1, 7);
        day(due, x, 100, 0, 0);
        x.frank(1, 10, 100);
        day(due, x, 132, 1, 7);
        day(due, x, 100, 0, 0);
        Desk.cycle(x);
        day(due, x, 132, 1, 7);
        day(due, x, 100, 0, 0);
    }

    private static void allPlaces(Due due) {
        due.of("0, if it is not kept: 32 places");
        FrankDesk x = Desk.filled(100_000);
        for (int d = 0; d < 32; d++) {
            x.frank(0, 1 + d, d);
        }
        for (int d = 0; d < 32; d++) {
            day(due, x, d, 1, 1 + d);
            day(due, x, d + 32, 0, 0);
        }
        for (int d = 32; d < 64; d++) {
            x.frank(0, 1 + d, d);
            day(due, x, d, 1, 1 + d);
            day(due, x, d - 32, 0, 0);
        }
    }

    private static void lastDay(Due due) {
        due.of("Of a day: the first and the last one, which share a place");
        FrankDesk x = Desk.filled(1000);
        x.frank(0, 4, 0);
        day(due, x, 0, 1, 4);
        x.inspect(100_000);
        x.frank(0, 3, 100_000);
        day(due, x, 100_000, 1, 3);
        day(due, x, 0, 0, 0);
        x.frank(0, 4, 0);
        day(due, x, 0, 0, 0);
        day(due, x, 100_000, 1, 3);
    }

    private static void moreThan32Bits(Due due) {
        due.of("1 cents, by 64 bits; of an earlier day nothing stays in its place");
        FrankDesk x = new FrankDesk(77);
        Desk.loadUpTo(x, 6_999_999_993L);
        for (int i = 0; i < 6; i++) {
            x.frank(4, 999_999_990, 9);
        }
        day(due, x, 9, 6, 5_999_999_940L);
        day(due, x, 8, 0, 0);
        day(due, x, 10, 0, 0);
        Desk.cycle(x);
        day(due, x, 9, 6, 5_999_999_940L);
        x.frank(4, 8, 41);
        day(due, x, 41, 1, 8);
        day(due, x, 9, 0, 0);
    }

    private static void noSuchDay(Due due) {
        due.of("BAD: none such (day)");
        FrankDesk x = Desk.filled(1000);
        x.frank(0, 10, 31);
        for (int d : new int[] {-1, -2, -32, 100_001, 100_002}) {
            day(due, x, d, -1, -1);
        }
        for (int odd : Desk.ODD_NUMBERS) {
            due.is("dayTotal(" + odd + ", 0)", x.dayTotal(odd, 0), -1);
        }
        day(due, x, 0, 0, 0);
        day(due, x, 100_000, 0, 0);
    }

    private static void noSuchNumber(Due due) {
        due.of("BAD: none such (number)");
        FrankDesk x = Desk.filled(1000);
        x.frank(0, 10, 31);
        for (int d : new int[] {0, 31, 63, 100_000}) {
            due.is("dayTotal(" + d + ", -1)", x.dayTotal(d, -1), -1);
            due.is("dayTotal(" + d + ", 2)", x.dayTotal(d, 2), -1);
            for (int odd : Desk.ODD_NUMBERS) {
                due.is("dayTotal(" + d + ", " + odd + ")", x.dayTotal(d, odd), -1);
            }
        }
    }

    private static void withoutPower(Due due) {
        due.of("CUT (no power)");
        FrankDesk x = Desk.filled(1000);
        x.frank(0, 10, 31);
        Desk.powerOff(x);
        day(due, x, 31, FrankDesk.CUT, FrankDesk.CUT);
        day(due, x, 30, FrankDesk.CUT, FrankDesk.CUT);
        day(due, x, -1, FrankDesk.CUT, FrankDesk.CUT);
        due.is("dayTotal(31, 2)", x.dayTotal(31, 2), FrankDesk.CUT);
    }
}
