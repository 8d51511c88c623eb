/** Promise 2: rate. */
public final class P02RateTest {
    public static void main(String[] args) {
        Due due = new Due();
        edges(due);
        everyPlaceIsItsOwn(due);
        draftsAreNotUsedYet(due);
        withoutPower(due);
        due.end();
    }

    private static void edges(Due due) {
        FrankDesk x = new FrankDesk(77);
        due.is("rate(0, 0, 0, 0)", x.rate(0, 0, 0, 0), 1);
        due.is("rate(7, 9, 3, 999999999)", x.rate(7, 9, 3, 999_999_999), 1);
        due.is("rate(8, 0, 0, 1)", x.rate(8, 0, 0, 1), -1);
        due.is("rate(0, 10, 0, 1)", x.rate(0, 10, 0, 1), -1);
        due.is("rate(0, 0, 4, 1)", x.rate(0, 0, 4, 1), -1);
        due.is("rate(0, 0, 0, 1000000000)", x.rate(0, 0, 0, 1_000_000_000), -1);
        for (int odd : Desk.ODD_NUMBERS) {
            due.is("rate of zone " + odd, x.rate(odd, 0, 0, 1), -1);
            due.is("rate of step " + odd, x.rate(0, odd, 0, 1), -1);
            due.is("rate of service " + odd, x.rate(0, 0, odd, 1), -1);
        }
        due.is("rate of -1 cents", x.rate(0, 0, 0, -1), -1);
        due.is("rate of least cents", x.rate(0, 0, 0, Integer.MIN_VALUE), -1);
        due.is("rate of most cents", x.rate(0, 0, 0, Integer.MAX_VALUE), -1);
        x.loadTable(0);
        due.is("no rate came of wrong calls", x.weigh(0, 1, 0), -1);
        due.is("the highest one is there", x.weigh(7, 500, 3), 999_999_999);
    }

    private static void everyPlaceIsItsOwn(Due due) {
        FrankDesk x = new FrankDesk(77);
        for (int i = 0; i < 320; i++) {
            due.is("rate " + i, x.rate(i / 40, i / 4 % 10, i % 4, i + 1), 1);
        }
        x.loadTable(0);
        for (int i = 0; i < 320; i++) {
            due.is("weigh " + i, x.weigh(i / 40, i / 4 % 10 * 50 + 1, i % 4), i + 1);
        }
    }

    private static void draftsAreNotUsedYet(Due due) {
        FrankDesk x = new FrankDesk(77);
        x.rate(1, 1, 1, 70);
        due.is("weigh before loadTable", x.weigh(1, 60, 1), -1);
        x.loadTable(1);
        x.rate(1, 1, 1, 80);
        due.is("weigh by the old table", x.weigh(1, 60, 1), 70);
        x.loadTable(1);
        due.is("weigh by the new table", x.weigh(1, 60, 1), 80);
        x.rate(1, 1, 1, 0);
        due.is("a draft of none is not used yet", x.weigh(1, 60, 1), 80);
        x.loadTable(1);
        due.is("a draft of none takes the rate away", x.weigh(1, 60, 1), -1);
    }

    private static void withoutPower(Due due) {
        FrankDesk x = new FrankDesk(77);
        x.rate(2, 0, 0, 41);
        Desk.powerOff(x);
        due.is("rate without power", x.rate(2, 1, 0, 42), 1);
        due.is("wrong rate without power", x.rate(8, 1, 0, 42), -1);
        x.mount();
        x.loadTable(5);
        due.is("a draft of before the cut", x.weigh(2, 50, 0), 41);
        due.is("a draft of behind the cut", x.weigh(2, 100, 0), 42);
        Desk.powerOff(x);
        x.mount();
        due.is("the table outlives a cut", x.weigh(2, 50, 0), 41);
    }
}
