/** Promise 11: counter. */
public final class P11CounterTest {
    public static void main(String[] args) {
        Due due = new Due();
        FrankDesk x = Desk.filled(999_999_999);
        for (int department = 0; department < 16; department++) {
            x.frank(department, 10 + department, 1);
        }
        x.frank(9, 1000, 2);
        counters(due, x);
        due.is("counter(16, 0)", x.counter(16, 0), -1);
        due.is("counter(-1, 1)", x.counter(-1, 1), -1);
        due.is("counter(0, 2)", x.counter(0, 2), -1);
        due.is("counter(0, -1)", x.counter(0, -1), -1);
        for (int odd : Desk.ODD_NUMBERS) {
            due.is("department " + odd, x.counter(odd, 0), -1);
            due.is("what " + odd, x.counter(0, odd), -1);
        }
        Desk.powerOff(x);
        due.is("counter without power", x.counter(3, 0), -7);
        due.is("wrong counter without power", x.counter(16, 2), -7);
        x.mount();
        counters(due, x);
        moreThan32Bits(due);
        due.end();
    }

    private static void counters(Due due, FrankDesk x) {
        for (int department = 0; department < 16; department++) {
            boolean twice = department == 9;
            due.is("pieces of " + department, x.counter(department, 0), twice ? 2 : 1);
            due.is("cents of " + department, x.counter(department, 1), 10 + department + (twice ? 1000 : 0));
        }
    }

    private static void moreThan32Bits(Due due) {
        FrankDesk x = new FrankDesk(77);
        for (int i = 0; i < 7; i++) {
            Desk.fill(x, 999_999_999);
            x.frank(4, 999_999_999, 1);
        }
        due.is("cents of 4", x.counter(4, 1), 6_999_999_993L);
        due.is("cents of 5", x.counter(5, 1), 0);
        due.is("cents of 3", x.counter(3, 1), 0);
        due.is("cents of day 1", x.dayTotal(1, 1), 6_999_999_993L);
        Desk.powerOff(x);
        x.mount();
        due.is("cents of 4 behind a cut", x.counter(4, 1), 6_999_999_993L);
        due.is("cents of day 1 behind a cut", x.dayTotal(1, 1), 6_999_999_993L);
    }
}
