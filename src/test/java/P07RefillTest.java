/** Promise 7: refill. */
public final class P07RefillTest {
    private static final int CODE_OF_5000 = 828_079;

    public static void main(String[] args) {
        Due due = new Due();
        record(due);
        wrongCode(due);
        codeOfTheCounter(due);
        cents(due);
        boundOfLoaded(due);
        asFarAs512CallsGo(due);
        everyCutInARecord(due);
        everyCutInASector(due);
        withoutPower(due);
        lockedOrUncertain(due);
        due.end();
    }

    private static void record(Due due) {
        due.of("Record 4. YES");
        FrankDesk x = new FrankDesk(77);
        due.is("refill", x.refill(5000, CODE_OF_5000), 1);
        Desk.record(due, x, 0, 0, 1, 4, 5000, 0);
        due.is("ascending", x.book(0), 0);
        due.is("descending", x.book(1), 5000);
        due.is("loaded", x.book(2), 5000);
        due.is("counter", x.book(6), 1);
    }

    private static void refused(Due due, FrankDesk x, int cents, int code) {
        int records = x.mount();
        long loaded = x.book(2);
        long counter = x.book(6);
        String call = "refill(" + cents + ", " + code + ")";
        due.is(call, x.refill(cents, code), 0);
        due.is("records behind " + call, x.mount(), records);
        due.is("loaded behind " + call, x.book(2), loaded);
        due.is("the counter behind " + call, x.book(6), counter);
    }

    private static void wrongCode(Due due) {
        due.of("NO: the code is not codeFor() of the counter and cents");
        FrankDesk x = new FrankDesk(77);
        refused(due, x, 5000, CODE_OF_5000 + 1);
        refused(due, x, 5000, CODE_OF_5000 - 1);
        refused(due, x, 5000, CODE_OF_5000 + 1_000_000);
        refused(due, x, 5000, CODE_OF_5000 - 1_000_000);
        refused(due, x, 5000, -CODE_OF_5000);
        refused(due, x, 5001, CODE_OF_5000);
        refused(due, x, 4999, CODE_OF_5000);
        for (int odd : Desk.ODD_NUMBERS) {
            refused(due, x, 5000, odd);
        }
        refused(due, new FrankDesk(78), 5000, CODE_OF_5000);
        due.is("the right one", x.refill(5000, CODE_OF_5000), 1);
    }

    private static void codeOfTheCounter(Due due) {
        due.of("NO: the code is not that of the counter");
        FrankDesk x = new FrankDesk(77);
        refused(due, x, 5000, (int) Desk.code(77, 1, 5000));
        x.refill(5000, CODE_OF_5000);
        refused(due, x, 5000, CODE_OF_5000);
        refused(due, x, 5000, (int) Desk.code(77, 2, 5000));
        due.is("the code of counter 1", x.refill(5000, (int) Desk.code(77, 1, 5000)), 1);
        Desk.cycle(x);
        due.is("the code of counter 2, behind a cut", x.refill(5000, (int) Desk.code(77, 2, 5000)), 1);
        due.is("loaded", x.book(2), 15_000);
    }

    private static void cents(Due due) {
        due.of("NO: cents are not 1 .. 999,999,999");
        for (int cents : new int[] {1, 2, 999_999_998, 999_999_999}) {
            FrankDesk x = new FrankDesk(77);
            due.is("refill of " + cents, x.refill(cents, (int) Desk.code(77, 0, cents)), 1);
            due.is("loaded", x.book(2), cents);
        }
        FrankDesk x = new FrankDesk(77);
        for (int cents : new int[] {0, -1, -5000, Integer.MIN_VALUE, 1_000_000_000, 1_000_000_001, Integer.MAX_VALUE}) {
            refused(due, x, cents, (int) Desk.code(77, 0, cents));
            refused(due, x, cents, x.codeFor(0, cents));
        }
    }

    /** No 512 calls load so much, so the books are bent by hand. */
    private static void boundOfLoaded(Due due) {
        due.of("NO: loaded would be 2 to the 40 or more");
        FrankDesk x = new FrankDesk(77);
        long loaded = (1L << 40) - 1000;
        Inside.books(x)[4] = (int) loaded;
        Inside.books(x)[5] = (int) (loaded >> 32);
        refused(due, x, 1001, x.codeFor(0, 1001));
        refused(due, x, 1000, x.codeFor(0, 1000));
        due.is("loaded would be one less", Desk.fill(x, 999), 1);
        due.is("loaded", x.book(2), (1L << 40) - 1);
        refused(due, x, 1, x.codeFor(1, 1));
        refused(due, x, 999_999_999, x.codeFor(1, 999_999_999));
    }

    private static void asFarAs512CallsGo(Due due) {
        due.of("YES, as far as 512 calls go");
        FrankDesk x = new FrankDesk(9_999_999);
        for (int i = 0; i < 500; i++) {
            due.is("refill " + i, x.refill(999_999_999, (int) Desk.code(9_999_999, i, 999_999_999)), 1);
        }
        due.is("loaded", x.book(2), 499_999_999_500L);
        due.is("descending", x.book(1), 499_999_999_500L);
        Desk.powerOff(x);
        due.is("mount()", x.mount(), 500);
        due.is("loaded behind a cut", x.book(2), 499_999_999_500L);
        due.is("counter behind a cut", x.book(6), 500);
        due.is("sound()", x.sound(), 1);
    }

    private static void everyCutInARecord(Due due) {
        due.of("CUT: power failed in it");
        for (int left = 0; left <= 5; left++) {
            cutIn(due, 0, left, 5);
        }
    }

    private static void everyCutInASector(Due due) {
        due.of("CUT: power failed in it, where it needs a new sector");
        for (int left = 0; left <= 200; left++) {
            cutIn(due, 12, left, 200);
        }
    }

    /** The code is used up only by a refill that is whole. */
    private static void cutIn(Due due, int records, int left, int needed) {
        FrankDesk x = new FrankDesk(77);
        Desk.writeMany(x, records);
        x.cut(left, -1);
        boolean whole = left >= needed;
        due.is("refill with " + left + " left", x.refill(5000, CODE_OF_5000), whole ? 1 : FrankDesk.CUT);
        due.is("mount()", x.mount(), whole ? records + 1 : records);
        due.is("loaded", x.book(2), whole ? 5000 : 0);
        due.is("descending", x.book(1), whole ? 5000 : 0);
        x.cut(100_000, 0);
        due.is("the same code then", x.refill(5000, CODE_OF_5000), whole ? 0 : 1);
    }

    private static void withoutPower(Due due) {
        due.of("CUT (no power)");
        FrankDesk x = new FrankDesk(77);
        Desk.powerOff(x);
        due.is("refill", x.refill(5000, CODE_OF_5000), FrankDesk.CUT);
        due.is("wrong refill", x.refill(0, 0), FrankDesk.CUT);
        x.mount();
        due.is("loaded", x.book(2), 0);
        due.is("the counter", x.book(6), 0);
    }

    private static void lockedOrUncertain(Due due) {
        due.of("NO, for no other reason: not when it is locked, or some piece is uncertain");
        FrankDesk x = new FrankDesk(77);
        x.lock();
        due.is("refill when locked", x.refill(5000, CODE_OF_5000), 1);
        FrankDesk y = Desk.uncertainAbout(1000, 10);
        due.is("refill when a piece is uncertain", Desk.fill(y, 500), 1);
        due.is("it stays uncertain", y.uncertain(), 1);
    }
}
