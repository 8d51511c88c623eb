import java.util.ArrayList;
import java.util.List;
import java.util.function.Supplier;
import java.util.function.ToLongFunction;

/**
 * Behind a refused call (NO, BAD, CUT) nothing is other than it was. Two desks are made alike, one of them gets
 * the call, and both must look the same then; what can't be seen at once (drafts, the cut that is told) is found
 * out by calls that follow on both.
 */
public final class RefusedTest {
    private record Call(String name, long due, ToLongFunction<FrankDesk> made) {
    }

    private final Due due;
    private final List<Call> calls = new ArrayList<>();

    private RefusedTest(Due due) {
        this.due = due;
    }

    public static void main(String[] args) {
        Due due = new Due();
        withPower(due);
        lockedDesk(due);
        uncertainDesk(due);
        claimingDesk(due);
        endOfASector(due);
        loadedUp(due);
        withoutPower(due);
        due.end();
    }

    private void refused(String name, long answer, ToLongFunction<FrankDesk> made) {
        calls.add(new Call(name, answer, made));
    }

    private void no(String name, ToLongFunction<FrankDesk> made) {
        refused(name, FrankDesk.NO, made);
    }

    private void bad(String name, ToLongFunction<FrankDesk> made) {
        refused(name, FrankDesk.BAD, made);
    }

    /** Each call on a desk of its own, and all of them on one. */
    private void changeNothing(Supplier<FrankDesk> start) {
        for (Call call : calls) {
            due.of(call.name);
            FrankDesk x = start.get();
            due.is("the call", call.made.applyAsLong(x), call.due);
            alike(x, start.get());
        }
        due.of("all of the refused calls, one behind the other");
        FrankDesk x = start.get();
        for (Call call : calls) {
            due.is(call.name, call.made.applyAsLong(x), call.due);
        }
        alike(x, start.get());
    }

    private void alike(FrankDesk x, FrankDesk untouched) {
        due.is("the first place that looks other", Look.at(x).differsAt(Look.at(untouched)), -1);
        for (int i = 0; i < 30; i++) {
            due.is("the call " + i + " behind it", follow(x, i), follow(untouched, i));
        }
        due.is("the first place that looks other then", Look.at(x).differsAt(Look.at(untouched)), -1);
    }

    /** Calls that find out the cut that is told, its mask, and the drafts. */
    private static long follow(FrankDesk x, int i) {
        if (i < 20) {
            return x.inspect(Math.max(1000, (int) x.book(8)));
        }
        switch (i) {
            case 20:
                return x.mount();
            case 21:
                return x.loadTable((int) x.book(9));
            case 22:
                return x.settle(false);
            case 23:
                return x.unlock(x.codeFor((int) x.book(6), 0));
            case 24:
                return x.refill(5, x.codeFor((int) x.book(6), 5));
            default:
                return x.frank(i % 16, 1, i);
        }
    }

    /** A desk with rates, drafts, records and days, and a cut that is told. */
    private static FrankDesk ordinary(int left) {
        FrankDesk x = Desk.filled(1000);
        x.rate(0, 0, 0, 10);
        x.rate(7, 9, 3, 999_999_999);
        x.loadTable(3);
        x.rate(0, 0, 0, 20);
        x.rate(7, 9, 3, 0);
        x.frank(0, 100, 5);
        x.frank(15, 100, 37);
        x.cut(left, 0x0F0F3C3C);
        return x;
    }

    private static void withPower(Due due) {
        RefusedTest test = new RefusedTest(due);
        test.wrongRates();
        test.wrongFranks();
        test.wrongRefills();
        test.otherWrongActions();
        test.wrongQuestions();
        // None left, so that any write would be noticed; then some, so that a write more would be.
        test.changeNothing(() -> ordinary(0));
        test.changeNothing(() -> ordinary(33));
        test.changeNothing(() -> ordinary(50));
    }

    private void wrongRates() {
        int[][] wrong = {{-1, 0, 0, 1}, {8, 0, 0, 1}, {0, -1, 0, 1}, {0, 10, 0, 1}, {0, 0, -1, 1}, {0, 0, 4, 1},
            {0, 0, 0, -1}, {0, 0, 0, 1_000_000_000}, {7, 9, 3, -1}, {7, 9, 3, 1_000_000_000}, {7, 10, 0, 1}};
        for (int[] w : wrong) {
            bad("rate(" + w[0] + ", " + w[1] + ", " + w[2] + ", " + w[3] + ")", x -> x.rate(w[0], w[1], w[2], w[3]));
        }
    }

    private void wrongFranks() {
        int[][] wrong = {{-1, 1, 5}, {16, 1, 5}, {0, 0, 5}, {0, -1, 5}, {0, 801, 5}, {0, 1_000_000_000, 5}, {0, 1, -1},
            {0, 1, 1001}, {0, 1, 100_000}, {0, 1, 100_001}};
        for (int[] w : wrong) {
            no("frank(" + w[0] + ", " + w[1] + ", " + w[2] + ")", x -> x.frank(w[0], w[1], w[2]));
        }
    }

    private void wrongRefills() {
        int[] cents = {0, -1, 1_000_000_000, Integer.MAX_VALUE, Integer.MIN_VALUE};
        for (int c : cents) {
            no("refill(" + c + ", its code)", x -> x.refill(c, (int) Desk.code(77, 1, c)));
            no("refill(" + c + ", BAD)", x -> x.refill(c, -1));
        }
        no("refill with a code one more", x -> x.refill(10, x.codeFor(1, 10) + 1));
        no("refill with a code one less", x -> x.refill(10, x.codeFor(1, 10) - 1));
        no("refill with the counter's code of before", x -> x.refill(1000, x.codeFor(0, 1000)));
        no("refill with the next counter's code", x -> x.refill(10, x.codeFor(2, 10)));
    }

    private void otherWrongActions() {
        no("loadTable(2)", x -> x.loadTable(2));
        no("loadTable(-1)", x -> x.loadTable(-1));
        no("loadTable(least)", x -> x.loadTable(Integer.MIN_VALUE));
        no("claimBack without a hundred pieces", x -> x.claimBack(5, 1));
        no("inspect(999)", x -> x.inspect(999));
        no("inspect(-1)", x -> x.inspect(-1));
        no("inspect(100001)", x -> x.inspect(100_001));
        no("unlock when not locked", x -> x.unlock(x.codeFor(1, 0)));
        no("settle(true) when none is uncertain", x -> x.settle(true));
        no("settle(false) when none is uncertain", x -> x.settle(false));
        bad("cut(-1, 5)", x -> x.cut(-1, 5));
        bad("cut(100001, 5)", x -> x.cut(100_001, 5));
        bad("cut(least, 5)", x -> x.cut(Integer.MIN_VALUE, 5));
    }

    private void wrongQuestions() {
        int[][] wrong = {{-1, 1, 0}, {8, 1, 0}, {0, 0, 0}, {0, 501, 0}, {0, 1, -1}, {0, 1, 4}, {1, 1, 0}};
        for (int[] w : wrong) {
            bad("weigh(" + w[0] + ", " + w[1] + ", " + w[2] + ")", x -> x.weigh(w[0], w[1], w[2]));
        }
        for (int n : new int[] {-1, 2}) {
            bad("printed(" + n + ")", x -> x.printed(n));
            bad("counter(0, " + n + ")", x -> x.counter(0, n));
            bad("dayTotal(5, " + n + ")", x -> x.dayTotal(5, n));
        }
        for (int n : new int[] {-1, 10}) {
            bad("book(" + n + ")", x -> x.book(n));
        }
        for (int n : new int[] {-1, 16}) {
            bad("counter(" + n + ", 0)", x -> x.counter(n, 0));
            bad("wear(" + n + ")", x -> x.wear(n));
            bad("word(" + n + ", 0)", x -> x.word(n, 0));
        }
        for (int n : new int[] {-1, 100_001}) {
            bad("dayTotal(" + n + ", 0)", x -> x.dayTotal(n, 0));
        }
        for (int n : new int[] {-1, 256}) {
            bad("word(0, " + n + ")", x -> x.word(0, n));
        }
        bad("codeFor(-1, 0)", x -> x.codeFor(-1, 0));
        bad("codeFor(0, -1)", x -> x.codeFor(0, -1));
    }

    private static void lockedDesk(Due due) {
        RefusedTest test = new RefusedTest(due);
        test.no("frank when locked", x -> x.frank(0, 1, 5));
        test.no("lock() when locked", FrankDesk::lock);
        test.no("unlock with the code of before the refill", x -> x.unlock(x.codeFor(0, 0)));
        test.no("unlock with the next counter's code", x -> x.unlock(x.codeFor(2, 0)));
        test.no("unlock with the code of one cent", x -> x.unlock(x.codeFor(1, 1)));
        test.no("unlock with a code one more", x -> x.unlock(x.codeFor(1, 0) + 1));
        test.no("unlock with a code one less", x -> x.unlock(x.codeFor(1, 0) - 1));
        test.no("unlock(-1)", x -> x.unlock(-1));
        test.changeNothing(() -> locked(0));
        test.changeNothing(() -> locked(33));
    }

    private static FrankDesk locked(int left) {
        FrankDesk x = ordinary(5);
        x.lock();
        x.cut(left, 0x0F0F3C3C);
        return x;
    }

    private static void uncertainDesk(Due due) {
        RefusedTest test = new RefusedTest(due);
        test.no("frank when a piece is uncertain", x -> x.frank(0, 1, 5));
        test.no("frank of what is uncertain", x -> x.frank(2, 30, 7));
        test.changeNothing(() -> uncertain(0));
        test.changeNothing(() -> uncertain(33));
    }

    private static FrankDesk uncertain(int left) {
        FrankDesk x = Desk.uncertainAbout(1000, 30);
        x.cut(left, 0x0F0F3C3C);
        return x;
    }

    private static void claimingDesk(Due due) {
        RefusedTest test = new RefusedTest(due);
        int[][] wrong = {{5, 0}, {5, -1}, {5, 2001}, {5, 1_000_000_000}, {-1, 1}, {100_001, 1}};
        for (int[] w : wrong) {
            test.no("claimBack(" + w[0] + ", " + w[1] + ")", x -> x.claimBack(w[0], w[1]));
        }
        test.bad("cut(-1, 5)", x -> x.cut(-1, 5));
        test.bad("cut(100001, 5)", x -> x.cut(100_001, 5));
        // Fifteen writes more fill sector 0; then sector 1 is erased, which is full of the lap before.
        test.changeNothing(() -> hundredPieces(0));
        test.changeNothing(() -> hundredPieces(15));
        test.changeNothing(() -> hundredPieces(33));
        RefusedTest second = new RefusedTest(due);
        second.no("a second claim of a hundred pieces", x -> x.claimBack(5, 1));
        second.changeNothing(() -> {
            FrankDesk x = hundredPieces(5);
            x.claimBack(5, 1);
            return x;
        });
    }

    private static FrankDesk hundredPieces(int left) {
        FrankDesk x = Desk.filled(100_000);
        Desk.frankMany(x, 100, 20);
        x.cut(left, 0x0F0F3C3C);
        return x;
    }

    /** Where the next record needs a new sector, a refused call must not start one. */
    private static void endOfASector(Due due) {
        RefusedTest test = new RefusedTest(due);
        test.no("frank(0, 1001, 5)", x -> x.frank(0, 1001, 5));
        test.no("refill(0, 0)", x -> x.refill(0, 0));
        test.no("loadTable(-1)", x -> x.loadTable(-1));
        test.no("claimBack(5, 1)", x -> x.claimBack(5, 1));
        test.no("inspect(999)", x -> x.inspect(999));
        test.no("unlock(1)", x -> x.unlock(1));
        test.no("settle(true)", x -> x.settle(true));
        test.changeNothing(() -> twelveRecords(100_000));
        test.changeNothing(() -> twelveRecords(0));
        test.changeNothing(() -> placeNotAllOnes(100_000));
        test.changeNothing(() -> placeNotAllOnes(0));
    }

    private static FrankDesk twelveRecords(int left) {
        FrankDesk x = Desk.filled(1000);
        Desk.writeMany(x, 11);
        x.cut(left, 0x0F0F3C3C);
        return x;
    }

    private static FrankDesk placeNotAllOnes(int left) {
        FrankDesk x = Desk.filled(1000);
        x.cut(2, 0);
        x.inspect(1000);
        x.mount();
        x.cut(left, 0x0F0F3C3C);
        return x;
    }

    private static void loadedUp(Due due) {
        RefusedTest test = new RefusedTest(due);
        test.no("loaded would be 2 to the 40", x -> Desk.fill(x, 1000));
        test.no("loaded would be more", x -> Desk.fill(x, 1001));
        test.changeNothing(() -> {
            FrankDesk x = new FrankDesk(77);
            long loaded = (1L << 40) - 1000;
            Inside.books(x)[4] = (int) loaded;
            Inside.books(x)[5] = (int) (loaded >> 32);
            return x;
        });
    }

    private static void withoutPower(Due due) {
        RefusedTest test = new RefusedTest(due);
        test.wrongRates();
        test.bad("cut(-1, 5)", x -> x.cut(-1, 5));
        test.bad("cut(100001, 5)", x -> x.cut(100_001, 5));
        test.refused("loadTable(4)", FrankDesk.CUT, x -> x.loadTable(4));
        test.refused("frank(0, 1, 5)", FrankDesk.CUT, x -> x.frank(0, 1, 5));
        test.refused("refill", FrankDesk.CUT, x -> x.refill(10, x.codeFor(1, 10)));
        test.refused("claimBack(5, 1)", FrankDesk.CUT, x -> x.claimBack(5, 1));
        test.refused("inspect(1001)", FrankDesk.CUT, x -> x.inspect(1001));
        test.refused("lock()", FrankDesk.CUT, FrankDesk::lock);
        test.refused("unlock", FrankDesk.CUT, x -> x.unlock(x.codeFor(1, 0)));
        test.refused("settle(false)", FrankDesk.CUT, x -> x.settle(false));
        test.refused("settle(true)", FrankDesk.CUT, x -> x.settle(true));
        test.refused("book(0)", FrankDesk.CUT, x -> x.book(0));
        test.refused("uncertain()", FrankDesk.CUT, FrankDesk::uncertain);
        test.refused("sound()", FrankDesk.CUT, FrankDesk::sound);
        test.changeNothing(() -> failed(0, 100_000));
        test.changeNothing(() -> failed(3, 0));
        test.changeNothing(() -> failed(7, 33));
    }

    /** A desk on which power failed in a piece, and the next cut is told already. */
    private static FrankDesk failed(int at, int left) {
        FrankDesk x = ordinary(at);
        x.frank(2, 30, 7);
        x.cut(left, 0x0F0F3C3C);
        return x;
    }
}
