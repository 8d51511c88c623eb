/** Promise 7: refill. */
public final class P07RefillTest {
    public static void main(String[] args) {
        Due due = new Due();
        ordinary(due);
        edges(due);
        sumsOfTwoWords(due);
        boundOfLoaded(due);
        everyCut(due);
        allowedWhenLockedOrUncertain(due);
        due.end();
    }

    private static void ordinary(Due due) {
        FrankDesk x = new FrankDesk(77);
        due.is("refill", x.refill(5000, 828_079), 1);
        Desk.record(due, x, 0, 0, 1, 4, 5000, 0);
        due.is("the same code again", x.refill(5000, 828_079), 0);
        due.is("descending", x.book(1), 5000);
        due.is("loaded", x.book(2), 5000);
        due.is("counter", x.book(6), 1);
        due.is("ascending", x.book(0), 0);
        due.is("the next code", x.refill(5000, (int) Desk.code(77, 1, 5000)), 1);
        due.is("loaded", x.book(2), 10_000);
        due.is("counter", x.book(6), 2);
    }

    private static void edges(Due due) {
        FrankDesk x = new FrankDesk(77);
        due.is("no cents", x.refill(0, (int) Desk.code(77, 0, 0)), 0);
        due.is("too many cents", x.refill(1_000_000_000, (int) Desk.code(77, 0, 1_000_000_000)), 0);
        due.is("code one more", x.refill(5000, 828_080), 0);
        due.is("code a million more", x.refill(5000, 1_828_079), 0);
        due.is("the code of other cents", x.refill(5001, 828_079), 0);
        for (int odd : Desk.ODD_NUMBERS) {
            if (odd < 1 || odd > 999_999_999) {
                due.is("cents " + odd, x.refill(odd, (int) Desk.code(77, 0, odd)), 0);
            }
            due.is("cents " + odd + " with BAD", x.refill(odd, -1), 0);
            due.is("code " + odd, x.refill(5000, odd), 0);
        }
        due.is("nothing was written", x.mount(), 0);
        due.is("one cent", x.refill(1, (int) Desk.code(77, 0, 1)), 1);
        due.is("most cents", x.refill(999_999_999, (int) Desk.code(77, 1, 999_999_999)), 1);
    }

    /** No 512 calls can load 2 to the 40, but they can pass 2 to the 32, and 2 to the 38. */
    private static void sumsOfTwoWords(Due due) {
        FrankDesk x = new FrankDesk(9_999_999);
        for (int i = 0; i < 500; i++) {
            due.is("refill " + i, x.refill(999_999_999, (int) Desk.code(9_999_999, i, 999_999_999)), 1);
        }
        due.is("loaded", x.book(2), 499_999_999_500L);
        due.is("descending", x.book(1), 499_999_999_500L);
        due.is("sound()", x.sound(), 1);
        Desk.powerOff(x);
        due.is("mount()", x.mount(), 500);
        due.is("loaded behind a cut", x.book(2), 499_999_999_500L);
        due.is("descending behind a cut", x.book(1), 499_999_999_500L);
        due.is("counter behind a cut", x.book(6), 500);
    }

    private static void boundOfLoaded(Due due) {
        FrankDesk x = new FrankDesk(77);
        long loaded = (1L << 40) - 1000;
        Inside.books(x)[4] = (int) loaded;
        Inside.books(x)[5] = (int) (loaded >> 32);
        due.is("loaded would be 2 to the 40 and one", Desk.fill(x, 1001), 0);
        due.is("loaded would be 2 to the 40", Desk.fill(x, 1000), 0);
        due.is("loaded would be one less", Desk.fill(x, 999), 1);
        due.is("loaded", x.book(2), (1L << 40) - 1);
        due.is("one more", Desk.fill(x, 1), 0);
        due.is("the counter", x.book(6), 1);
    }

    private static void everyCut(Due due) {
        for (int left = 0; left <= 5; left++) {
            FrankDesk x = new FrankDesk(77);
            x.cut(left, -1);
            due.is("refill with " + left + " left", x.refill(5000, 828_079), left == 5 ? 1 : -7);
            if (left < 5) {
                due.is("refill without power", x.refill(5000, 828_079), -7);
                due.is("wrong refill without power", x.refill(0, 0), -7);
            }
            due.is("mount()", x.mount(), left == 5 ? 1 : 0);
            due.is("loaded", x.book(2), left == 5 ? 5000 : 0);
            due.is("the same code then", x.refill(5000, 828_079), left == 5 ? 0 : 1);
        }
    }

    private static void allowedWhenLockedOrUncertain(Due due) {
        FrankDesk x = new FrankDesk(77);
        x.lock();
        due.is("refill when locked", x.refill(5000, 828_079), 1);
        FrankDesk y = Desk.uncertainAbout(1000, 10);
        due.is("refill when a piece is uncertain", Desk.fill(y, 500), 1);
        due.is("it stays uncertain", y.uncertain(), 1);
    }
}
