/** Terms: a cut, what is left before it, and its mask. */
public final class T02CutTest {
    private static final int A_LAP = 16 * 12;

    public static void main(String[] args) {
        Due due = new Due();
        for (int mask : new int[] {0, -1, 0x0FF0F00F}) {
            atEachWriteAndErase(due, mask);
        }
        powerFails(due);
        farAway(due);
        tooFarAway(due);
        oneBitOfTheMask(due);
        otherMasks(due);
        maskAtAWrite(due);
        dueOnce(due);
        due.end();
    }

    /** A desk whose sector 15 has room for one record, and whose sector 0 is the next one and full. */
    private static FrankDesk atTheEndOfALap() {
        FrankDesk x = Desk.filled(100_000);
        Desk.frankMany(x, 95, 10);
        return x;
    }

    /** Record 1 takes five words, record 2 an erase, 194 words, and five. */
    private static void atEachWriteAndErase(Due due, int mask) {
        due.of("so many word writes and erases more are done, the one behind them is not");
        FrankDesk before = atTheEndOfALap();
        FrankDesk whole = atTheEndOfALap();
        whole.frank(7, 70, 7);
        for (int left = 0; left <= 205; left++) {
            FrankDesk x = atTheEndOfALap();
            x.cut(left, mask);
            due.is("frank with " + left + " left", x.frank(7, 70, 7), left == 205 ? FrankDesk.YES : FrankDesk.CUT);
            for (int i = 0; i < 5; i++) {
                int want = i < left ? whole.word(15, 249 + i) : Desk.ALL_ONES;
                due.is("word(15, " + (249 + i) + ") with " + left + " left", x.word(15, 249 + i), want);
            }
            for (int i = 0; i < 256; i++) {
                int want = wordOfNext(before, whole, left - 5, mask, i);
                due.is("word(0, " + i + ") with " + left + " left", x.word(0, i), want);
            }
            due.is("wear(0) with " + left + " left", x.wear(0), left < 5 ? 1 : 2);
        }
    }

    private static int wordOfNext(FrankDesk before, FrankDesk whole, int left, int mask, int i) {
        boolean kept = (mask >>> (i % 32) & 1) == 1;
        if (left < 0 || left == 0 && kept) {
            return before.word(0, i);
        }
        return i < left - 1 ? whole.word(0, i) : Desk.ALL_ONES;
    }

    private static void powerFails(Due due) {
        due.of("and power fails");
        for (int left = 0; left <= 5; left++) {
            FrankDesk x = new FrankDesk(77);
            x.cut(left, 0);
            x.inspect(1000);
            due.is("book(8) with " + left + " left", x.book(8), left < 5 ? FrankDesk.CUT : 1000);
            due.is("inspect with " + left + " left", x.inspect(1000), FrankDesk.CUT);
            due.is("book(8) behind it", x.book(8), FrankDesk.CUT);
        }
    }

    /** The records of 500 pieces take some 21,000 writes and erases: a cut among the last of them. */
    private static void farAway(Due due) {
        due.of("so many word writes and erases more are done");
        for (int far : new int[] {20_000, 20_001, 20_007, 20_199, 20_203}) {
            FrankDesk x = Desk.filled(100_000);
            x.cut(far, 0);
            int piece = 0;
            int left = far;
            while (piece < 500 && left >= Desk.costOf(2 + 2 * piece) + Desk.costOf(3 + 2 * piece)) {
                left -= Desk.costOf(2 + 2 * piece) + Desk.costOf(3 + 2 * piece);
                due.is("piece " + piece + " of cut " + far, x.frank(0, 1, 1), FrankDesk.YES);
                piece++;
            }
            due.is("the cut " + far, x.frank(0, 1, 1), FrankDesk.CUT);
        }
    }

    private static void tooFarAway(Due due) {
        due.of("0 .. 100,000 writes and erases that are left: 512 calls do not come so far");
        FrankDesk x = Desk.filled(100_000);
        x.cut(100_000, 0);
        for (int i = 0; i < 508; i++) {
            due.is("piece " + i, x.frank(0, 1, 1), FrankDesk.YES);
        }
        due.is("book(4)", x.book(4), 508);
    }

    private static void oneBitOfTheMask(Due due) {
        due.of("the words i for which bit i modulo 32 of a mask is set stay as they are, the others become all ones");
        for (int bit = 0; bit < 32; bit++) {
            failedErase(due, 1 << bit);
            failedErase(due, ~(1 << bit));
        }
    }

    private static void otherMasks(Due due) {
        due.of("masks that keep none, all, and some");
        for (int mask : new int[] {0, -1, 0x55555555, 0xAAAAAAAA, 0xFFFF0000, 0x0000FFFF, 0xDEADBEEF}) {
            failedErase(due, mask);
        }
    }

    private static void failedErase(Due due, int mask) {
        FrankDesk x = new FrankDesk(77);
        Desk.writeMany(x, A_LAP);
        int[] before = Desk.words(x, 0, 0, 256);
        x.cut(0, mask);
        due.is("a record", x.inspect(1000), FrankDesk.CUT);
        for (int i = 0; i < 256; i++) {
            boolean kept = (mask >>> (i % 32) & 1) == 1;
            due.is("word(0, " + i + ") of mask " + mask, x.word(0, i), kept ? before[i] : Desk.ALL_ONES);
        }
        due.is("mount() behind mask " + mask, x.mount(), A_LAP);
        due.is("a record then", x.inspect(1000), FrankDesk.YES);
        due.is("the generation", x.word(0, 0), 17);
        Desk.record(due, x, 0, 0, A_LAP + 1, 6, 1000, 0);
    }

    private static void maskAtAWrite(Due due) {
        due.of("a write changes nothing then");
        for (int mask : new int[] {0, -1, 0x55555555}) {
            for (int left = 0; left < 5; left++) {
                FrankDesk before = new FrankDesk(77);
                FrankDesk x = new FrankDesk(77);
                Desk.writeMany(before, 15);
                Desk.writeMany(x, 15);
                x.cut(left, mask);
                x.inspect(1000);
                for (int at = 0; at < 4096; at++) {
                    boolean written = at >= 256 + 209 && at < 256 + 209 + left;
                    if (!written) {
                        due.is("word " + at, x.word(at / 256, at % 256), before.word(at / 256, at % 256));
                    }
                }
            }
        }
    }

    private static void dueOnce(Due due) {
        due.of("A CUT is told: one, not one each time");
        FrankDesk x = new FrankDesk(77);
        x.cut(7, 0);
        due.is("five of seven", x.inspect(1000), FrankDesk.YES);
        due.is("the other two", x.inspect(1000), FrankDesk.CUT);
        x.mount();
        for (int i = 0; i < 300; i++) {
            due.is("record " + i + " behind it", x.inspect(1000), FrankDesk.YES);
        }
    }
}
