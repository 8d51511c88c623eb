/** Promise 1: a new object. */
public final class P01NewObjectTest {
    public static void main(String[] args) {
        Due due = new Due();
        tooSmall(due);
        tooLarge(due);
        between(due);
        noRates(due);
        nothingThereYet(due);
        due.end();
    }

    private static void tooSmall(Due due) {
        due.of("1, if it is less");
        for (int machine : new int[] {1, 0, -1, -2, -9_999_999, Integer.MIN_VALUE + 1, Integer.MIN_VALUE}) {
            due.is("codeFor(0, 0) of machine " + machine, new FrankDesk(machine).codeFor(0, 0), 3027);
        }
    }

    private static void tooLarge(Due due) {
        due.of("9,999,999, if more");
        for (int machine : new int[] {9_999_999, 10_000_000, 10_000_001, Integer.MAX_VALUE - 1, Integer.MAX_VALUE}) {
            due.is("codeFor(0, 0) of machine " + machine, new FrankDesk(machine).codeFor(0, 0), 996_973);
        }
    }

    private static void between(Due due) {
        due.of("A machine with a number");
        int[][] pairs = {{2, 6054}, {77, 233_079}, {4711, 260_197}, {9_999_998, 993_946}};
        for (int[] pair : pairs) {
            due.is("codeFor(0, 0) of machine " + pair[0], new FrankDesk(pair[0]).codeFor(0, 0), pair[1]);
        }
    }

    private static void noRates(Due due) {
        due.of("No rates");
        FrankDesk x = new FrankDesk(77);
        for (int i = 0; i < 320; i++) {
            due.is("weigh " + i, x.weigh(i / 40, i / 4 % 10 * 50 + 1, i % 4), -1);
        }
        due.of("No rates: no drafts, either");
        FrankDesk y = new FrankDesk(77);
        y.loadTable(0);
        for (int i = 0; i < 320; i++) {
            due.is("weigh " + i, y.weigh(i / 40, i / 4 % 10 * 50 + 1, i % 4), -1);
        }
    }

    private static void nothingThereYet(Due due) {
        due.of("A new object: no piece, no day kept, nothing uncertain, not locked, nothing printed, with power");
        FrankDesk x = new FrankDesk(77);
        for (int what = 0; what < 10; what++) {
            due.is("book(" + what + ")", x.book(what), what == 8 ? 1000 : 0);
        }
        for (int department = 0; department < 16; department++) {
            due.is("pieces of " + department, x.counter(department, 0), 0);
            due.is("cents of " + department, x.counter(department, 1), 0);
        }
        for (int day : new int[] {0, 1, 31, 32, 999, 1000, 100_000}) {
            due.is("pieces of day " + day, x.dayTotal(day, 0), 0);
            due.is("cents of day " + day, x.dayTotal(day, 1), 0);
        }
        due.is("uncertain()", x.uncertain(), 0);
        due.is("settle(true)", x.settle(true), 0);
        due.is("printed(0)", x.printed(0), 0);
        due.is("printed(1)", x.printed(1), 0);
        due.is("frank(0, 1, 0)", x.frank(0, 1, 0), 0);
        due.is("claimBack(0, 1)", x.claimBack(0, 1), 0);
        due.is("sound()", x.sound(), 1);
        due.is("mount()", x.mount(), 0);
    }
}
