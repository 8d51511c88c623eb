/** Promise 16: cut. What a cut does then is told by the terms: T02CutTest. */
public final class P16CutTest {
    public static void main(String[] args) {
        Due due = new Due();
        leftOrAnotherNumber(due);
        anyMask(due);
        inThePlaceOfWhatWas(due);
        wrongOneChangesNothing(due);
        maskInThePlaceOfWhatWas(due);
        withoutPower(due);
        mountLeavesIt(due);
        readingIsFree(due);
        due.end();
    }

    private static void leftOrAnotherNumber(Due due) {
        due.of("0 .. 100,000 writes and erases that are left; BAD: another number");
        FrankDesk x = new FrankDesk(77);
        for (int left : new int[] {0, 1, 2, 99_999, 100_000}) {
            due.is("cut(" + left + ", 0)", x.cut(left, 0), 1);
        }
        for (int left : new int[] {-1, -2, 100_001, 100_002}) {
            due.is("cut(" + left + ", 0)", x.cut(left, 0), -1);
        }
        for (int odd : Desk.ODD_NUMBERS) {
            due.is("cut(" + odd + ", 0)", x.cut(odd, 0), -1);
        }
    }

    private static void anyMask(Due due) {
        due.of("and a mask: any");
        FrankDesk x = new FrankDesk(77);
        for (int mask : new int[] {0, 1, -1, 100_001, Integer.MIN_VALUE, Integer.MAX_VALUE}) {
            due.is("cut(7, " + mask + ")", x.cut(7, mask), 1);
        }
        for (int odd : Desk.ODD_NUMBERS) {
            due.is("cut(7, " + odd + ")", x.cut(7, odd), 1);
        }
    }

    private static void inThePlaceOfWhatWas(Due due) {
        due.of("A cut is told, in the place of what was");
        FrankDesk x = new FrankDesk(77);
        x.cut(0, 0);
        x.cut(5, 0);
        due.is("the first one does not count", x.inspect(1000), 1);
        due.is("the second one does", x.inspect(1000), FrankDesk.CUT);
        FrankDesk y = new FrankDesk(77);
        y.cut(100_000, 0);
        y.inspect(1000);
        y.cut(0, 0);
        due.is("an earlier one than before", y.inspect(1000), FrankDesk.CUT);
        FrankDesk z = new FrankDesk(77);
        z.cut(7, 0);
        z.inspect(1000);
        z.cut(7, 0);
        due.is("the count begins anew", z.inspect(1000), 1);
        due.is("and has its end", z.inspect(1000), FrankDesk.CUT);
    }

    private static void wrongOneChangesNothing(Due due) {
        due.of("BAD: another number, and what was told stays");
        FrankDesk x = new FrankDesk(77);
        x.cut(5, 0);
        x.cut(-1, 0);
        x.cut(100_001, 0);
        due.is("five writes", x.inspect(1000), 1);
        due.is("the one behind them", x.inspect(1000), FrankDesk.CUT);
        FrankDesk y = new FrankDesk(77);
        y.cut(-1, 0);
        y.cut(100_001, 0);
        for (int i = 0; i < 30; i++) {
            due.is("none is told", y.inspect(1000), 1);
        }
    }

    private static void maskInThePlaceOfWhatWas(Due due) {
        due.of("A cut is told, in the place of what was, with its mask");
        FrankDesk x = new FrankDesk(77);
        Desk.writeMany(x, 16 * 12);
        int[] before = Desk.words(x, 0, 0, 64);
        x.cut(0, -1);
        x.cut(0, 0);
        x.cut(0, 0x0000FFFF);
        x.cut(-1, -1);
        due.is("the erase fails", x.inspect(1000), FrankDesk.CUT);
        for (int i = 0; i < 64; i++) {
            due.is("word(0, " + i + ")", x.word(0, i), i % 32 < 16 ? before[i] : Desk.ALL_ONES);
        }
    }

    private static void withoutPower(Due due) {
        due.of("Also without power");
        FrankDesk x = new FrankDesk(77);
        Desk.powerOff(x);
        due.is("cut(5, 0)", x.cut(5, 0), 1);
        due.is("cut(-1, 0)", x.cut(-1, 0), -1);
        due.is("cut(100001, 0)", x.cut(100_001, 0), -1);
        due.is("it brings no power", x.book(0), FrankDesk.CUT);
        x.mount();
        due.is("five writes", x.inspect(1000), 1);
        due.is("the one behind them", x.inspect(1000), FrankDesk.CUT);
    }

    private static void mountLeavesIt(Due due) {
        due.of("A cut is told: mount() with power leaves it as it is");
        FrankDesk x = new FrankDesk(77);
        x.cut(7, 0);
        x.inspect(1000);
        x.mount();
        x.mount();
        due.is("two of seven are left", x.inspect(1000), FrankDesk.CUT);
        due.is("they were written", x.word(0, 200), 6);
        due.is("the one behind them was not", x.word(0, 201), Desk.ALL_ONES);
    }

    private static void readingIsFree(Due due) {
        due.of("writes and erases that are left: other calls take none");
        FrankDesk x = Desk.filled(100);
        x.cut(5, 0);
        x.book(0);
        x.counter(0, 0);
        x.dayTotal(0, 0);
        x.sound();
        x.mount();
        x.uncertain();
        x.settle(true);
        x.frank(0, 101, 0);
        x.rate(0, 0, 0, 1);
        x.weigh(0, 1, 0);
        x.word(0, 0);
        x.wear(0);
        due.is("nothing of the five is gone", x.lock(), 1);
        due.is("all of the five are gone", x.unlock(x.codeFor(1, 0)), FrankDesk.CUT);
    }
}
