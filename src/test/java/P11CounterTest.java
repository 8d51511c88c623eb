/** Promise 11: counter. */
public final class P11CounterTest {
    public static void main(String[] args) {
        Due due = new Due();
        nothingYet(due);
        each(due);
        moreThan32Bits(due);
        noSuchDepartment(due);
        noSuchNumber(due);
        refusedPieces(due);
        withoutPower(due);
        due.end();
    }

    private static void nothingYet(Due due) {
        due.of("Of a department without a piece: 0 pieces, 0 cents");
        FrankDesk x = Desk.filled(1000);
        for (int department = 0; department < 16; department++) {
            due.is("counter(" + department + ", 0)", x.counter(department, 0), 0);
            due.is("counter(" + department + ", 1)", x.counter(department, 1), 0);
        }
    }

    private static FrankDesk used() {
        FrankDesk x = Desk.filled(999_999_999);
        for (int department = 0; department < 16; department++) {
            x.frank(department, 10 + department, 1);
        }
        x.frank(9, 1000, 2);
        return x;
    }

    private static void each(Due due) {
        due.of("Of a department: 0 pieces, 1 cents");
        FrankDesk x = used();
        counters(due, x);
        Desk.cycle(x);
        counters(due, x);
    }

    private static void counters(Due due, FrankDesk x) {
        for (int department = 0; department < 16; department++) {
            boolean twice = department == 9;
            due.is("pieces of " + department, x.counter(department, 0), twice ? 2 : 1);
            due.is("cents of " + department, x.counter(department, 1), 10 + department + (twice ? 1000 : 0));
        }
    }

    private static void moreThan32Bits(Due due) {
        due.of("1 cents, by 64 bits");
        for (int department : new int[] {0, 4, 15}) {
            FrankDesk x = new FrankDesk(77);
            Desk.loadUpTo(x, 6_999_999_993L);
            for (int i = 0; i < 7; i++) {
                x.frank(department, 999_999_999, 1);
            }
            for (int d = 0; d < 16; d++) {
                due.is("cents of " + d, x.counter(d, 1), d == department ? 6_999_999_993L : 0);
            }
            Desk.cycle(x);
            due.is("cents of " + department + " behind a cut", x.counter(department, 1), 6_999_999_993L);
        }
    }

    private static void noSuchDepartment(Due due) {
        due.of("BAD: none such (department)");
        FrankDesk x = used();
        for (int department : new int[] {-1, -2, 16, 17}) {
            due.is("counter(" + department + ", 0)", x.counter(department, 0), -1);
            due.is("counter(" + department + ", 1)", x.counter(department, 1), -1);
        }
        for (int odd : Desk.ODD_NUMBERS) {
            due.is("counter(" + odd + ", 0)", x.counter(odd, 0), -1);
            due.is("counter(" + odd + ", " + odd + ")", x.counter(odd, odd), -1);
        }
    }

    private static void noSuchNumber(Due due) {
        due.of("BAD: none such (number)");
        FrankDesk x = used();
        for (int department : new int[] {0, 15}) {
            due.is("counter(" + department + ", -1)", x.counter(department, -1), -1);
            due.is("counter(" + department + ", 2)", x.counter(department, 2), -1);
            for (int odd : Desk.ODD_NUMBERS) {
                due.is("counter(" + department + ", " + odd + ")", x.counter(department, odd), -1);
            }
        }
    }

    private static void refusedPieces(Due due) {
        due.of("Of a department: 0 pieces, 1 cents: not those that were refused, or not whole");
        FrankDesk x = Desk.filled(100);
        x.frank(3, 101, 1);
        x.cut(4, 0);
        x.frank(3, 100, 1);
        x.mount();
        due.is("counter(3, 0)", x.counter(3, 0), 0);
        due.is("counter(3, 1)", x.counter(3, 1), 0);
    }

    private static void withoutPower(Due due) {
        due.of("CUT (no power)");
        FrankDesk x = used();
        Desk.powerOff(x);
        due.is("counter(3, 0)", x.counter(3, 0), FrankDesk.CUT);
        due.is("counter(3, 1)", x.counter(3, 1), FrankDesk.CUT);
        due.is("counter(16, 0)", x.counter(16, 0), FrankDesk.CUT);
        due.is("counter(0, 2)", x.counter(0, 2), FrankDesk.CUT);
    }
}
