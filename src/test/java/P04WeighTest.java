/** Promise 4: weigh. */
public final class P04WeighTest {
    public static void main(String[] args) {
        Due due = new Due();
        grams(due);
        steps(due);
        zonesAndServices(due);
        noneSuch(due);
        noRate(due);
        withoutPower(due);
        due.end();
    }

    /** A rate for each zone, step and service, by which they can be told. */
    private static FrankDesk full() {
        FrankDesk x = new FrankDesk(77);
        for (int i = 0; i < 320; i++) {
            x.rate(i / 40, i / 4 % 10, i % 4, 1000 * (1 + i / 40) + 10 * (i / 4 % 10) + i % 4);
        }
        x.loadTable(1);
        return x;
    }

    private static void grams(Due due) {
        due.of("a piece of 1 .. 500 grams");
        FrankDesk x = full();
        due.is("weigh(5, 1, 2)", x.weigh(5, 1, 2), 6002);
        due.is("weigh(5, 500, 2)", x.weigh(5, 500, 2), 6092);
        for (int grams : new int[] {0, -1, -48, -49, -50, -51, 501, 502, 550, Integer.MIN_VALUE, Integer.MAX_VALUE}) {
            due.is("weigh(5, " + grams + ", 2)", x.weigh(5, grams, 2), -1);
        }
    }

    private static void steps(Due due) {
        due.of("of step (grams - 1) / 50, cut off");
        FrankDesk x = full();
        for (int step = 0; step < 10; step++) {
            for (int grams : new int[] {50 * step + 1, 50 * step + 2, 50 * step + 25, 50 * step + 49, 50 * step + 50}) {
                due.is("weigh(0, " + grams + ", 0)", x.weigh(0, grams, 0), 1000 + 10 * step);
            }
        }
    }

    private static void zonesAndServices(Due due) {
        due.of("by the table that is used: zones 0 .. 7, services 0 .. 3");
        FrankDesk x = full();
        for (int zone = -1; zone <= 8; zone++) {
            for (int service = -1; service <= 4; service++) {
                boolean known = zone >= 0 && zone <= 7 && service >= 0 && service <= 3;
                int want = known ? 1000 * (1 + zone) + 10 + service : -1;
                due.is("weigh(" + zone + ", 70, " + service + ")", x.weigh(zone, 70, service), want);
            }
        }
    }

    private static void noneSuch(Due due) {
        due.of("BAD: none such");
        FrankDesk x = full();
        for (int odd : Desk.ODD_NUMBERS) {
            due.is("weigh of zone " + odd, x.weigh(odd, 1, 2), -1);
            due.is("weigh of grams " + odd, x.weigh(5, odd, 2), -1);
            due.is("weigh of service " + odd, x.weigh(5, 1, odd), -1);
        }
    }

    private static void noRate(Due due) {
        due.of("BAD: no rate");
        FrankDesk x = new FrankDesk(77);
        x.rate(5, 3, 2, 1);
        x.rate(5, 5, 2, 999_999_999);
        x.loadTable(0);
        due.is("the least rate", x.weigh(5, 151, 2), 1);
        due.is("the greatest rate", x.weigh(5, 300, 2), 999_999_999);
        due.is("the step below", x.weigh(5, 150, 2), -1);
        due.is("the step above", x.weigh(5, 201, 2), -1);
        due.is("another service", x.weigh(5, 151, 1), -1);
        due.is("another zone", x.weigh(4, 151, 2), -1);
    }

    private static void withoutPower(Due due) {
        due.of("Also without power");
        FrankDesk x = full();
        Desk.powerOff(x);
        due.is("weigh(5, 51, 2)", x.weigh(5, 51, 2), 6012);
        due.is("weigh(5, 0, 2)", x.weigh(5, 0, 2), -1);
        due.is("weigh(8, 1, 0)", x.weigh(8, 1, 0), -1);
        due.is("it brings no power", x.book(0), FrankDesk.CUT);
    }
}
