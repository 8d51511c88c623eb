/** Promise 16: cut. */
public final class P16CutTest {
    public static void main(String[] args) {
        Due due = new Due();
        edges(due);
        newOneInThePlaceOfTheOld(due);
        onceOnly(due);
        toldWithoutPower(due);
        masks(due);
        readingIsFree(due);
        due.end();
    }

    private static void edges(Due due) {
        FrankDesk x = new FrankDesk(77);
        due.is("cut(0, 0)", x.cut(0, 0), 1);
        due.is("cut(100000, -1)", x.cut(100_000, -1), 1);
        due.is("cut(100001, 0)", x.cut(100_001, 0), -1);
        due.is("cut(-1, 0)", x.cut(-1, 0), -1);
        for (int odd : Desk.ODD_NUMBERS) {
            due.is("cut(" + odd + ", 0)", x.cut(odd, 0), -1);
            due.is("cut(7, " + odd + ")", x.cut(7, odd), 1);
        }
    }

    private static void newOneInThePlaceOfTheOld(Due due) {
        FrankDesk x = new FrankDesk(77);
        x.cut(0, 0);
        x.cut(5, 0);
        due.is("the first one does not count", x.inspect(1000), 1);
        due.is("the second one does", x.inspect(1000), -7);
        FrankDesk y = new FrankDesk(77);
        y.cut(0, 0);
        y.cut(-1, 0);
        y.cut(100_001, 0);
        due.is("a wrong one changes nothing", y.inspect(1000), -7);
    }

    private static void onceOnly(Due due) {
        FrankDesk x = new FrankDesk(77);
        x.cut(7, 0);
        due.is("five of seven", x.inspect(1000), 1);
        due.is("the other two", x.inspect(1000), -7);
        due.is("mount()", x.mount(), 1);
        for (int i = 0; i < 100; i++) {
            due.is("no cut any more", x.inspect(1000), 1);
        }
        due.is("the last number", x.mount(), 101);
    }

    private static void toldWithoutPower(Due due) {
        FrankDesk x = new FrankDesk(77);
        Desk.powerOff(x);
        due.is("cut without power", x.cut(5, 0), 1);
        due.is("wrong cut without power", x.cut(-1, 0), -1);
        x.mount();
        due.is("five writes", x.inspect(1000), 1);
        due.is("the one behind them", x.inspect(1000), -7);
        x.mount();
        x.cut(5, 0);
        x.mount();
        due.is("mount with power leaves the cut: five writes", x.inspect(1000), 1);
        due.is("mount with power leaves the cut: the one behind them", x.inspect(1000), -7);
    }

    /** After a lap of 16 sectors sector 0 is full: what a failed erase leaves of it is seen. */
    private static void masks(Due due) {
        for (int mask : new int[] {0, -1, 1, 2, 0x80000000, 0x55555555, 0x0F0F0F0F, 0xDEADBEEF}) {
            FrankDesk x = new FrankDesk(77);
            for (int i = 0; i < 16 * 12; i++) {
                x.inspect(1000 + i);
            }
            int[] before = Desk.words(x, 0, 0, 256);
            x.cut(0, mask);
            due.is("the erase fails", x.inspect(99_999), -7);
            for (int i = 0; i < 256; i++) {
                boolean kept = (mask >>> (i % 32) & 1) == 1;
                due.is("word(0, " + i + ") of mask " + mask, x.word(0, i), kept ? before[i] : Desk.ALL_ONES);
            }
            due.is("a failed erase counts", x.wear(0), 2);
            due.is("mount()", x.mount(), 192);
            due.is("the day", x.book(8), 1191);
            due.is("again", x.inspect(99_999), 1);
            due.is("generation", x.word(0, 0), 17);
            Desk.record(due, x, 0, 0, 193, 6, 99_999, 0);
        }
    }

    private static void readingIsFree(Due due) {
        FrankDesk x = Desk.filled(100);
        x.cut(5, 0);
        x.book(0);
        x.counter(0, 0);
        x.dayTotal(0, 0);
        x.sound();
        x.mount();
        x.uncertain();
        x.settle(true);
        x.frank(0, 101, 0);
        x.rate(0, 0, 0, 1);
        due.is("nothing of the five is gone", x.lock(), 1);
        due.is("all of the five are gone", x.unlock(x.codeFor(1, 0)), -7);
    }
}
