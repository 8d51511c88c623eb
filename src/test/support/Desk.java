/** What several tests do with a desk. */
final class Desk {
    static final int ALL_ONES = -1;
    static final int[] ODD_NUMBERS = {Integer.MIN_VALUE, -100_001, -257, -256, -17, -16, -2, -1, 100_001,
        1_000_000_000, Integer.MAX_VALUE - 1, Integer.MAX_VALUE};

    private Desk() {
    }

    static long code(int machine, long counter, long cents) {
        return Math.floorMod((machine * 1009L + counter) * 1000003L + cents * 7919L, 1000000L);
    }

    /** A desk of machine 77 with so many cents, by one refill. */
    static FrankDesk filled(int cents) {
        FrankDesk x = new FrankDesk(77);
        if (fill(x, cents) != FrankDesk.YES) {
            throw new IllegalStateException("the refill was refused");
        }
        return x;
    }

    static int fill(FrankDesk x, int cents) {
        return x.refill(cents, x.codeFor((int) x.book(6), cents));
    }

    static void frankMany(FrankDesk x, int pieces, int cents) {
        for (int i = 0; i < pieces; i++) {
            if (x.frank(i % 16, cents, i % 40) != FrankDesk.YES) {
                throw new IllegalStateException("a piece was refused");
            }
        }
    }

    /** So many records that change nothing in the books of a desk whose inspection day is the first one. */
    static void writeMany(FrankDesk x, int records) {
        for (int i = 0; i < records; i++) {
            if (x.inspect(1000) != FrankDesk.YES) {
                throw new IllegalStateException("a record was refused");
            }
        }
    }

    /** Loads up to a sum, by as few refills as can be. */
    static void loadUpTo(FrankDesk x, long sum) {
        for (long loaded = x.book(2); loaded < sum; loaded += 999_999_999) {
            if (fill(x, (int) Math.min(999_999_999, sum - loaded)) != FrankDesk.YES) {
                throw new IllegalStateException("a refill was refused");
            }
        }
    }

    /** Power fails and comes back, so that the books are read from the memory. */
    static void cycle(FrankDesk x) {
        powerOff(x);
        x.mount();
    }

    /** Lets power fail at the next write or erase. */
    static void powerOff(FrankDesk x) {
        x.cut(0, 0);
        for (int i = 0; i < 2 && x.book(0) != FrankDesk.CUT; i++) {
            x.inspect((int) x.book(8));
        }
        if (x.book(0) != FrankDesk.CUT) {
            throw new IllegalStateException("power did not fail");
        }
    }

    /** A desk on which a piece of so many cents is uncertain. */
    static FrankDesk uncertainAbout(int filled, int cents) {
        FrankDesk x = filled(filled);
        x.cut(5, 0);
        if (x.frank(2, cents, 7) != FrankDesk.CUT) {
            throw new IllegalStateException("power did not fail");
        }
        x.mount();
        return x;
    }

    /** How many writes and erases the record with this number takes, if no place was left half written. */
    static int costOf(int number) {
        return number > 1 && number % 12 == 1 ? 1 + 194 + 5 : 5;
    }

    static int mark(int... words) {
        int m = 17;
        for (int w : words) {
            m = 31 * m + w;
        }
        m ^= 0x5A5A5A5A;
        return m == -1 ? 0 : m;
    }

    static int[] words(FrankDesk x, int sector, int from, int count) {
        int[] words = new int[count];
        for (int i = 0; i < count; i++) {
            words[i] = x.word(sector, from + i);
        }
        return words;
    }

    /** Expects a record of these four words, and its mark, at a place of a sector. */
    static void record(Due due, FrankDesk x, int sector, int place, int... four) {
        int at = 194 + 5 * place;
        for (int i = 0; i < 4; i++) {
            due.is("word " + i + " of record " + place + " in sector " + sector, x.word(sector, at + i), four[i]);
        }
        due.is("mark of record " + place + " in sector " + sector, x.word(sector, at + 4), mark(four));
    }
}
