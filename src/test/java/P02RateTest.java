/** Promise 2: rate. */
public final class P02RateTest {
    public static void main(String[] args) {
        Due due = new Due();
        zones(due);
        steps(due);
        services(due);
        cents(due);
        none(due);
        noneSuch(due);
        wrongOnesLeaveTheDraft(due);
        everyPlaceIsItsOwn(due);
        draftsAreNotUsedYet(due);
        withoutPower(due);
        neverLost(due);
        due.end();
    }

    private static void zones(Due due) {
        due.of("zone 0 .. 7");
        FrankDesk x = new FrankDesk(77);
        for (int zone = -2; zone <= 9; zone++) {
            due.is("rate(" + zone + ", 0, 0, 5)", x.rate(zone, 0, 0, 5), zone >= 0 && zone <= 7 ? 1 : -1);
        }
    }

    private static void steps(Due due) {
        due.of("step 0 .. 9");
        FrankDesk x = new FrankDesk(77);
        for (int step = -2; step <= 11; step++) {
            due.is("rate(0, " + step + ", 0, 5)", x.rate(0, step, 0, 5), step >= 0 && step <= 9 ? 1 : -1);
        }
    }

    private static void services(Due due) {
        due.of("service 0 .. 3");
        FrankDesk x = new FrankDesk(77);
        for (int service = -2; service <= 5; service++) {
            due.is("rate(0, 0, " + service + ", 5)", x.rate(0, 0, service, 5), service >= 0 && service <= 3 ? 1 : -1);
        }
    }

    private static void cents(Due due) {
        due.of("cents 0 .. 999,999,999");
        int[] right = {0, 1, 2, 999_999_998, 999_999_999};
        for (int cents : right) {
            FrankDesk x = new FrankDesk(77);
            due.is("rate(7, 9, 3, " + cents + ")", x.rate(7, 9, 3, cents), 1);
            x.loadTable(0);
            due.is("weigh by " + cents, x.weigh(7, 500, 3), cents == 0 ? -1 : cents);
        }
        int[] wrong = {-1, -2, Integer.MIN_VALUE, 1_000_000_000, 1_000_000_001, Integer.MAX_VALUE};
        for (int cents : wrong) {
            due.is("rate(7, 9, 3, " + cents + ")", new FrankDesk(77).rate(7, 9, 3, cents), -1);
        }
    }

    private static void none(Due due) {
        due.of("0: none");
        FrankDesk x = new FrankDesk(77);
        due.is("rate(1, 1, 1, 0)", x.rate(1, 1, 1, 0), 1);
        x.loadTable(1);
        due.is("weigh", x.weigh(1, 60, 1), -1);
        x.rate(1, 1, 1, 80);
        x.loadTable(1);
        due.is("weigh by a rate", x.weigh(1, 60, 1), 80);
        x.rate(1, 1, 1, 0);
        x.loadTable(1);
        due.is("weigh when the rate is taken away", x.weigh(1, 60, 1), -1);
    }

    private static void noneSuch(Due due) {
        due.of("BAD: none such");
        FrankDesk x = new FrankDesk(77);
        for (int odd : Desk.ODD_NUMBERS) {
            due.is("rate of zone " + odd, x.rate(odd, 0, 0, 1), -1);
            due.is("rate of step " + odd, x.rate(0, odd, 0, 1), -1);
            due.is("rate of service " + odd, x.rate(0, 0, odd, 1), -1);
            due.is("rate of all " + odd, x.rate(odd, odd, odd, 1), -1);
        }
    }

    /** Places beside the ends must not be those of other zones, steps and services. */
    private static void wrongOnesLeaveTheDraft(Due due) {
        due.of("BAD: none such, and no draft comes of it");
        FrankDesk x = new FrankDesk(77);
        x.rate(3, 4, 2, 50);
        for (int zone = -1; zone <= 8; zone += 9) {
            x.rate(zone, 4, 2, 1);
        }
        for (int zone = 0; zone < 8; zone++) {
            x.rate(zone, -1, 2, 1);
            x.rate(zone, 10, 2, 1);
            x.rate(zone, 4, -1, 1);
            x.rate(zone, 4, 4, 1);
        }
        x.rate(3, 4, 2, -1);
        x.rate(3, 4, 2, 1_000_000_000);
        x.loadTable(0);
        for (int i = 0; i < 320; i++) {
            boolean drafted = i / 40 == 3 && i / 4 % 10 == 4 && i % 4 == 2;
            due.is("weigh " + i, x.weigh(i / 40, i / 4 % 10 * 50 + 1, i % 4), drafted ? 50 : -1);
        }
    }

    private static void everyPlaceIsItsOwn(Due due) {
        due.of("zone 0 .. 7, step 0 .. 9, service 0 .. 3: each has a rate of its own");
        // All 320 rates, and a weigh for each, are more calls than one object is good for.
        for (int half = 0; half < 2; half++) {
            FrankDesk x = new FrankDesk(77);
            for (int i = 0; i < 320; i++) {
                x.rate(i / 40, i / 4 % 10, i % 4, i + 1);
            }
            x.loadTable(0);
            for (int i = half; i < 320; i += 2) {
                due.is("weigh " + i, x.weigh(i / 40, i / 4 % 10 * 50 + 1, i % 4), i + 1);
            }
        }
    }

    private static void draftsAreNotUsedYet(Due due) {
        due.of("A draft of a rate");
        FrankDesk x = new FrankDesk(77);
        x.rate(1, 1, 1, 70);
        due.is("weigh before loadTable", x.weigh(1, 60, 1), -1);
        x.loadTable(1);
        x.rate(1, 1, 1, 80);
        due.is("weigh by the old table", x.weigh(1, 60, 1), 70);
        x.loadTable(1);
        due.is("weigh by the new table", x.weigh(1, 60, 1), 80);
        x.rate(1, 1, 1, 0);
        due.is("a draft of none is not used yet", x.weigh(1, 60, 1), 80);
    }

    private static void withoutPower(Due due) {
        due.of("Also without power");
        FrankDesk x = new FrankDesk(77);
        Desk.powerOff(x);
        due.is("rate without power", x.rate(2, 1, 0, 42), 1);
        due.is("wrong rate without power", x.rate(8, 1, 0, 42), -1);
        due.is("wrong cents without power", x.rate(2, 1, 0, -1), -1);
        due.is("it brings no power", x.book(0), FrankDesk.CUT);
        x.mount();
        x.loadTable(5);
        due.is("weigh", x.weigh(2, 100, 0), 42);
    }

    private static void neverLost(Due due) {
        due.of("rates are never lost");
        FrankDesk x = new FrankDesk(77);
        x.rate(2, 0, 0, 41);
        Desk.cycle(x);
        x.loadTable(5);
        due.is("a draft of before the cut", x.weigh(2, 50, 0), 41);
        x.rate(2, 0, 0, 43);
        Desk.powerOff(x);
        due.is("the table without power", x.weigh(2, 50, 0), 41);
        x.mount();
        due.is("the table behind the cut", x.weigh(2, 50, 0), 41);
        x.loadTable(5);
        due.is("the draft behind the cut", x.weigh(2, 50, 0), 43);
        x.rate(4, 0, 0, 60);
        x.loadTable(5);
        due.is("a rate of an earlier table in a later one", x.weigh(2, 50, 0), 43);
        due.is("a rate that came to it", x.weigh(4, 50, 0), 60);
    }
}
