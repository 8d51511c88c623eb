/** All that can be seen of a desk by calls that change nothing, in one row. */
final class Look {
    private static final int[] DAYS = {0, 1, 5, 7, 8, 31, 32, 37, 39, 40, 69, 968, 999, 1000, 1001, 99_999, 100_000};

    private final long[] seen = new long[5000];
    private int count;

    private Look() {
    }

    static Look at(FrankDesk x) {
        Look look = withoutMemory(x);
        look.memory(x);
        return look;
    }

    /** Behind a cut the memory is other than it was, but what the desk knows need not be. */
    static Look withoutMemory(FrankDesk x) {
        Look look = new Look();
        look.books(x);
        look.table(x);
        return look;
    }

    /** The place of the first thing that is not as another look saw it; -1 if all is. */
    int differsAt(Look other) {
        for (int i = 0; i < seen.length; i++) {
            if (seen[i] != other.seen[i]) {
                return i;
            }
        }
        return -1;
    }

    private void add(long answer) {
        seen[count++] = answer;
    }

    private void books(FrankDesk x) {
        for (int what = 0; what < 10; what++) {
            add(x.book(what));
        }
        for (int department = 0; department < 16; department++) {
            add(x.counter(department, 0));
            add(x.counter(department, 1));
        }
        for (int day : DAYS) {
            add(x.dayTotal(day, 0));
            add(x.dayTotal(day, 1));
        }
        add(x.printed(0));
        add(x.printed(1));
        add(x.uncertain());
        add(x.sound());
        add(x.sound() == FrankDesk.CUT ? FrankDesk.CUT : x.mount());
    }

    private void table(FrankDesk x) {
        for (int i = 0; i < 320; i++) {
            add(x.weigh(i / 40, i / 4 % 10 * 50 + 50, i % 4));
        }
    }

    private void memory(FrankDesk x) {
        for (int sector = 0; sector < 16; sector++) {
            add(x.wear(sector));
            for (int i = 0; i < 256; i++) {
                add(x.word(sector, i));
            }
        }
    }
}
