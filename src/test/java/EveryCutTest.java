/** One script of calls, cut at each write and erase of it, with several masks, and gone on with behind the cut. */
public final class EveryCutTest {
    private static final int[] MASKS = {0, -1, 0x55555555, 0xFFFF0000, 0x00000002};
    private static final int FAR_BEHIND_THE_SCRIPT = 5000;

    public static void main(String[] args) {
        Due due = new Due();
        // In the second lap round the sectors old books could be mistaken for new ones.
        for (int records : new int[] {0, 7, 16 * 12 - 3}) {
            for (int mask : MASKS) {
                int left = 0;
                while (left < FAR_BEHIND_THE_SCRIPT && !due.anyWrong() && fails(due, records, left, mask)) {
                    left++;
                }
                due.holds("the script has an end", left > 500 && left < FAR_BEHIND_THE_SCRIPT);
            }
        }
        due.end();
    }

    /** Whether power failed in the script with so many writes left. */
    private static boolean fails(Due due, int records, int left, int mask) {
        Twins x = new Twins(due, "cut at " + left + " behind " + records + " records, mask " + mask, 4711);
        for (int i = 0; i < records; i++) {
            x.inspect(1000);
        }
        x.cut(left, mask);
        script(x);
        boolean failed = x.sound() == FrankDesk.CUT;
        x.mount();
        x.compareAll();
        x.cut(100_000, 0);
        x.settle(left % 3 == 0);
        script(x);
        x.compareAll();
        return failed;
    }

    private static void script(Twins x) {
        refill(x, 999_999_999);
        x.rate(0, 0, 0, 55);
        x.loadTable((int) x.desk.book(9) + 1);
        for (int i = 0; i < 15; i++) {
            x.frank(i, 50_000_000 - i, 960 + 3 * i);
        }
        x.lock();
        x.unlock(x.desk.codeFor((int) x.desk.book(6), 0));
        x.inspect((int) x.desk.book(8) + 3);
        refill(x, 77);
        x.frank(15, 77, 1001);
        x.weigh(0, 1, 0);
        x.printed(1);
    }

    private static void refill(Twins x, int cents) {
        x.refill(cents, x.desk.codeFor((int) x.desk.book(6), cents));
    }
}
