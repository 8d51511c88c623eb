import java.util.function.ToIntFunction;

/**
 * A call in which power fails before its record is whole has done nothing: behind the mount the desk knows what
 * it knew, and the same call is done then. Each call, at each write and erase, with masks that keep none, some and all.
 */
public final class CutCallTest {
    private static final int[] MASKS = {0, -1, 0x3C3C5A5A};
    private static final int IN_A_RECORD = 5;
    private static final int IN_A_NEW_SECTOR = 200;

    /** A call, whether the desk is locked before it, and whether a piece is uncertain then. */
    private record Call(String name, boolean locked, boolean uncertain, ToIntFunction<FrankDesk> made) {
    }

    private static final Call[] CALLS = {
        new Call("loadTable(4)", false, false, x -> x.loadTable(4)),
        new Call("frank(2, 30, 7)", false, false, x -> x.frank(2, 30, 7)),
        new Call("refill(10, ..)", false, false, x -> x.refill(10, x.codeFor(1, 10))),
        new Call("claimBack(5, 10)", false, false, x -> x.claimBack(5, 10)),
        new Call("inspect(1001)", false, false, x -> x.inspect(1001)),
        new Call("lock()", false, false, FrankDesk::lock),
        new Call("unlock(..)", true, false, x -> x.unlock(x.codeFor(1, 0))),
        new Call("settle(true)", false, true, x -> x.settle(true)),
        new Call("settle(false)", false, true, x -> x.settle(false))};

    public static void main(String[] args) {
        Due due = new Due();
        for (Call call : CALLS) {
            for (int mask : MASKS) {
                due.of("CUT: power failed in " + call.name + ", in its record");
                atEach(due, call, false, mask);
                due.of("CUT: power failed in " + call.name + ", in a new sector");
                atEach(due, call, true, mask);
            }
        }
        due.end();
    }

    private static void atEach(Due due, Call call, boolean full, int mask) {
        Look before = Look.withoutMemory(start(call, full));
        int needed = full ? IN_A_NEW_SECTOR : IN_A_RECORD;
        for (int left = 0; left < needed; left++) {
            FrankDesk x = start(call, full);
            x.cut(left, mask);
            due.is("the call with " + left + " left", call.made.applyAsInt(x), FrankDesk.CUT);
            due.is("the call without power", call.made.applyAsInt(x), FrankDesk.CUT);
            x.mount();
            due.is("what is other with " + left + " left", Look.withoutMemory(x).differsAt(before), -1);
            due.is("the call behind the mount", call.made.applyAsInt(x), FrankDesk.YES);
        }
    }

    /** A hundred pieces, a draft that no table has yet, and a sector that is full, or has one record. */
    private static FrankDesk start(Call call, boolean full) {
        FrankDesk x = Desk.filled(10_000);
        x.rate(0, 0, 0, 10);
        x.loadTable(3);
        x.rate(0, 0, 0, 20);
        Desk.frankMany(x, 100, 20);
        if (call.locked) {
            x.lock();
        }
        if (call.uncertain) {
            x.cut(5, 0);
            x.frank(9, 40, 8);
            x.mount();
        }
        int room = 12 - x.mount() % 12;
        Desk.writeMany(x, full ? room : room + 1);
        return x;
    }
}
