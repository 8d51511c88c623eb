/** Terms: what calls answer when power failed, with arguments that are right, and that are not. */
public final class T08NoPowerTest {
    private static final int CUT = FrankDesk.CUT;

    public static void main(String[] args) {
        Due due = new Due();
        callsThatNeedPower(due);
        wrongCallsThatNeedPower(due);
        callsThatSaySo(due);
        wrongCallsThatSaySo(due);
        mountGivesPower(due);
        due.end();
    }

    /** A desk with a rate, a hundred pieces, and one that is uncertain; it has no power. */
    private static FrankDesk without() {
        FrankDesk x = Desk.filled(10_000);
        x.rate(1, 0, 2, 95);
        x.loadTable(3);
        Desk.frankMany(x, 100, 20);
        x.cut(5, 0);
        if (x.frank(2, 30, 7) != CUT) {
            throw new IllegalStateException("power did not fail");
        }
        return x;
    }

    private static void callsThatNeedPower(Due due) {
        due.of("When power failed, all calls answer CUT");
        FrankDesk x = without();
        due.is("loadTable(4)", x.loadTable(4), CUT);
        due.is("frank(0, 1, 1)", x.frank(0, 1, 1), CUT);
        due.is("refill", x.refill(10, x.codeFor(1, 10)), CUT);
        due.is("claimBack(1, 1)", x.claimBack(1, 1), CUT);
        for (int what = 0; what < 10; what++) {
            due.is("book(" + what + ")", x.book(what), CUT);
        }
        due.is("counter(0, 0)", x.counter(0, 0), CUT);
        due.is("counter(15, 1)", x.counter(15, 1), CUT);
        due.is("dayTotal(1, 0)", x.dayTotal(1, 0), CUT);
        due.is("dayTotal(99, 1)", x.dayTotal(99, 1), CUT);
        due.is("inspect(1000)", x.inspect(1000), CUT);
        due.is("lock()", x.lock(), CUT);
        due.is("unlock", x.unlock(x.codeFor(1, 0)), CUT);
        due.is("uncertain()", x.uncertain(), CUT);
        due.is("settle(true)", x.settle(true), CUT);
        due.is("settle(false)", x.settle(false), CUT);
        due.is("sound()", x.sound(), CUT);
    }

    private static void wrongCallsThatNeedPower(Due due) {
        due.of("When power failed, all calls answer CUT, those too that would be refused");
        FrankDesk x = without();
        due.is("loadTable(-1)", x.loadTable(-1), CUT);
        due.is("loadTable(2)", x.loadTable(2), CUT);
        due.is("frank(16, 1, 1)", x.frank(16, 1, 1), CUT);
        due.is("frank(0, 0, 1)", x.frank(0, 0, 1), CUT);
        due.is("frank(0, 1, -1)", x.frank(0, 1, -1), CUT);
        due.is("refill(0, 0)", x.refill(0, 0), CUT);
        due.is("refill with a wrong code", x.refill(10, 1 + x.codeFor(1, 10)), CUT);
        due.is("claimBack(-1, 0)", x.claimBack(-1, 0), CUT);
        due.is("book(-1)", x.book(-1), CUT);
        due.is("book(10)", x.book(10), CUT);
        due.is("counter(-1, 0)", x.counter(-1, 0), CUT);
        due.is("counter(16, 2)", x.counter(16, 2), CUT);
        due.is("dayTotal(-1, 0)", x.dayTotal(-1, 0), CUT);
        due.is("dayTotal(100001, 2)", x.dayTotal(100_001, 2), CUT);
        due.is("inspect(999)", x.inspect(999), CUT);
        due.is("inspect(-1)", x.inspect(-1), CUT);
        due.is("unlock(-1)", x.unlock(-1), CUT);
    }

    private static void callsThatSaySo(Due due) {
        due.of("but mount(), and those that say so: (Also without power)");
        FrankDesk x = without();
        due.is("rate(0, 0, 0, 7)", x.rate(0, 0, 0, 7), 1);
        due.is("weigh(1, 50, 2)", x.weigh(1, 50, 2), 95);
        due.is("printed(0)", x.printed(0), 101);
        due.is("printed(1)", x.printed(1), 2030);
        due.is("codeFor(0, 5000)", x.codeFor(0, 5000), 828_079);
        due.is("wear(0)", x.wear(0), 2);
        due.is("wear(15)", x.wear(15), 1);
        due.is("word(0, 0)", x.word(0, 0), 17);
        due.is("word(15, 255)", x.word(15, 255), Desk.ALL_ONES);
        due.is("cut(100000, 5)", x.cut(100_000, 5), 1);
        due.is("power is not there", x.book(0), CUT);
        due.is("mount()", x.mount(), 203);
        due.is("ascending", x.book(0), 2030);
    }

    private static void wrongCallsThatSaySo(Due due) {
        due.of("those that say so answer BAD without power, too");
        FrankDesk x = without();
        due.is("rate(8, 0, 0, 7)", x.rate(8, 0, 0, 7), -1);
        due.is("rate(0, 0, 0, -1)", x.rate(0, 0, 0, -1), -1);
        due.is("weigh(1, 51, 2)", x.weigh(1, 51, 2), -1);
        due.is("weigh(1, 0, 2)", x.weigh(1, 0, 2), -1);
        due.is("printed(2)", x.printed(2), -1);
        due.is("printed(-1)", x.printed(-1), -1);
        due.is("codeFor(-1, 0)", x.codeFor(-1, 0), -1);
        due.is("codeFor(0, -1)", x.codeFor(0, -1), -1);
        due.is("wear(16)", x.wear(16), -1);
        due.is("wear(-1)", x.wear(-1), -1);
        due.is("word(16, 0)", x.word(16, 0), -1);
        due.is("word(1, 256)", x.word(1, 256), -1);
        due.is("cut(-1, 0)", x.cut(-1, 0), -1);
        due.is("cut(100001, 0)", x.cut(100_001, 0), -1);
        due.is("power is not there", x.book(0), CUT);
    }

    private static void mountGivesPower(Due due) {
        due.of("Power is there: calls answer again");
        FrankDesk x = without();
        x.mount();
        due.is("uncertain()", x.uncertain(), 1);
        due.is("sound()", x.sound(), 1);
        due.is("book(4)", x.book(4), 101);
        due.is("counter(2, 1)", x.counter(2, 1), 7 * 20 + 30);
        due.is("dayTotal(7, 0)", x.dayTotal(7, 0), 0);
        due.is("book(10)", x.book(10), -1);
        due.is("frank", x.frank(0, 1, 1), 0);
        due.is("settle(true)", x.settle(true), 1);
        due.is("frank", x.frank(0, 1, 1), 1);
        due.is("loadTable(4)", x.loadTable(4), 1);
        due.is("refill", x.refill(10, x.codeFor(1, 10)), 1);
        due.is("claimBack(1, 1)", x.claimBack(1, 1), 1);
        due.is("inspect(1000)", x.inspect(1000), 1);
        due.is("lock()", x.lock(), 1);
        due.is("unlock", x.unlock(x.codeFor(2, 0)), 1);
    }
}
