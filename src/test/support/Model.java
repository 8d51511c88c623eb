import java.util.Arrays;

/**
 * A second desk, written another way: its books are plain numbers that only whole records change, so that
 * mount() has nothing to read back. A failing power is an exception here.
 */
final class Model {
    private static final class PowerFailed extends Exception {
        private static final long serialVersionUID = 1L;
    }

    private final long machine;
    private final int[][][] drafts = new int[8][10][4];
    private final int[][][] table = new int[8][10][4];
    final int[][] words = new int[16][256];
    final int[] wear = new int[16];
    private boolean power = true;
    private long left = Long.MAX_VALUE;
    private int mask;
    private int inUse;
    private int generation;
    private int recordsThere;
    private boolean placeIsDirty;
    int number;

    private long ascending, descending, loaded, claimed, pieces, claims, refills, inspection = 1000, version, uncertain;
    private boolean locked;
    private final long[] departmentPieces = new long[16], departmentCents = new long[16];
    private final long[] day = new long[32], dayPieces = new long[32], dayCents = new long[32];
    private long piecesOut, centsOut;

    Model(int machine) {
        this.machine = machine < 1 ? 1 : machine > 9_999_999 ? 9_999_999 : machine;
        for (int[] sector : words) {
            Arrays.fill(sector, -1);
        }
        Arrays.fill(day, -1);
        try {
            newSector(0);
        } catch (PowerFailed e) {
            throw new IllegalStateException(e);
        }
    }

    private void spend() throws PowerFailed {
        if (left == 0) {
            left = Long.MAX_VALUE;
            power = false;
            throw new PowerFailed();
        }
        if (left != Long.MAX_VALUE) {
            left--;
        }
    }

    private void write(int sector, int i, long value) throws PowerFailed {
        spend();
        words[sector][i] = (int) value;
    }

    private void erase(int sector) throws PowerFailed {
        wear[sector]++;
        try {
            spend();
        } catch (PowerFailed e) {
            for (int i = 0; i < 256; i++) {
                words[sector][i] = (mask & 1 << i % 32) != 0 ? words[sector][i] : -1;
            }
            throw e;
        }
        Arrays.fill(words[sector], -1);
    }

    private int[] books() {
        long[] all = new long[191];
        long[] sums = {ascending, descending, loaded, claimed};
        int at = 0;
        for (long sum : sums) {
            all[at++] = sum;
            all[at++] = sum >> 32;
        }
        long[] singles = {pieces, claims, refills, locked ? 1 : 0, inspection, version, uncertain};
        for (long single : singles) {
            all[at++] = single;
        }
        for (int d = 0; d < 16; d++) {
            all[at++] = departmentPieces[d];
            all[at++] = departmentCents[d];
            all[at++] = departmentCents[d] >> 32;
        }
        for (int d = 0; d < 32; d++) {
            all[at++] = day[d];
            all[at++] = dayPieces[d];
            all[at++] = dayCents[d];
            all[at++] = dayCents[d] >> 32;
        }
        int[] result = new int[191];
        for (int i = 0; i < 191; i++) {
            result[i] = (int) all[i];
        }
        return result;
    }

    private void newSector(int next) throws PowerFailed {
        erase(next);
        int[] head = new int[193];
        head[0] = generation + 1;
        head[1] = number;
        System.arraycopy(books(), 0, head, 2, 191);
        for (int i = 0; i < 193; i++) {
            write(next, i, head[i]);
        }
        write(next, 193, Desk.mark(head));
        inUse = next;
        generation++;
        recordsThere = 0;
        placeIsDirty = false;
    }

    private void record(int kind, long a, long b) throws PowerFailed {
        if (recordsThere == 12 || placeIsDirty) {
            newSector(inUse == 15 ? 0 : inUse + 1);
        }
        int[] four = {number + 1, kind, (int) a, (int) b};
        int at = 194 + 5 * recordsThere;
        for (int i = 0; i < 4; i++) {
            write(inUse, at + i, four[i]);
            placeIsDirty = true;
        }
        write(inUse, at + 4, Desk.mark(four));
        placeIsDirty = false;
        recordsThere++;
        number++;
    }

    int rate(int zone, int step, int service, int cents) {
        if (zone < 0 || zone > 7 || step < 0 || step > 9 || service < 0 || service > 3 || cents < 0 || cents > 999999999) {
            return -1;
        }
        drafts[zone][step][service] = cents;
        return 1;
    }

    int loadTable(int v) {
        if (!power) {
            return -7;
        }
        if (v < version || v < 0) {
            return 0;
        }
        try {
            record(9, v, 0);
        } catch (PowerFailed e) {
            return -7;
        }
        version = v;
        for (int z = 0; z < 8; z++) {
            for (int s = 0; s < 10; s++) {
                System.arraycopy(drafts[z][s], 0, table[z][s], 0, 4);
            }
        }
        return 1;
    }

    int weigh(int zone, int grams, int service) {
        if (zone < 0 || zone > 7 || grams < 1 || grams > 500 || service < 0 || service > 3) {
            return -1;
        }
        int cents = table[zone][(grams - 1) / 50][service];
        return cents == 0 ? -1 : cents;
    }

    int frank(int department, int cents, int d) {
        if (!power) {
            return -7;
        }
        if (locked || d > inspection || department < 0 || department > 15 || d < 0 || d > 100000
                || cents < 1 || cents > 999999999 || cents > descending || uncertain != 0) {
            return 0;
        }
        try {
            record(1, cents, department + 16 * d);
            ascending += cents;
            descending -= cents;
            pieces++;
            departmentPieces[department]++;
            departmentCents[department] += cents;
            uncertain = cents;
            int place = d % 32;
            if (day[place] < d) {
                day[place] = d;
                dayPieces[place] = 1;
                dayCents[place] = cents;
            } else if (day[place] == d) {
                dayPieces[place]++;
                dayCents[place] += cents;
            }
            piecesOut++;
            centsOut += cents;
            record(2, 0, 0);
            uncertain = 0;
            return 1;
        } catch (PowerFailed e) {
            return -7;
        }
    }

    long printed(int what) {
        return what == 0 ? piecesOut : what == 1 ? centsOut : -1;
    }

    int refill(int cents, int code) {
        if (!power) {
            return -7;
        }
        if (cents < 1 || cents > 999999999 || code != Desk.code((int) machine, refills, cents) || loaded + cents >= 1L << 40) {
            return 0;
        }
        try {
            record(4, cents, 0);
        } catch (PowerFailed e) {
            return -7;
        }
        descending += cents;
        loaded += cents;
        refills++;
        return 1;
    }

    int codeFor(int counter, int cents) {
        return counter < 0 || cents < 0 ? -1 : (int) Desk.code((int) machine, counter, cents);
    }

    int claimBack(int d, int cents) {
        if (!power) {
            return -7;
        }
        if (claims + 1 > pieces / 100 || cents < 1 || cents > 999999999 || cents > ascending || d < 0 || d > 100000) {
            return 0;
        }
        try {
            record(5, cents, d);
        } catch (PowerFailed e) {
            return -7;
        }
        descending += cents;
        claimed += cents;
        claims++;
        return 1;
    }

    long book(int what) {
        if (!power) {
            return -7;
        }
        long[] all = {ascending, descending, loaded, claimed, pieces, claims, refills, locked ? 1 : 0, inspection, version};
        return what < 0 || what >= all.length ? -1 : all[what];
    }

    long counter(int department, int what) {
        if (!power) {
            return -7;
        }
        if (department < 0 || department > 15 || what < 0 || what > 1) {
            return -1;
        }
        return what == 0 ? departmentPieces[department] : departmentCents[department];
    }

    long dayTotal(int d, int what) {
        if (!power) {
            return -7;
        }
        if (d < 0 || d > 100000 || what < 0 || what > 1) {
            return -1;
        }
        if (day[d % 32] != d) {
            return 0;
        }
        return what == 0 ? dayPieces[d % 32] : dayCents[d % 32];
    }

    int inspect(int d) {
        if (!power) {
            return -7;
        }
        if (d < 0 || d > 100000 || d < inspection) {
            return 0;
        }
        try {
            record(6, d, 0);
        } catch (PowerFailed e) {
            return -7;
        }
        inspection = d;
        return 1;
    }

    int lock() {
        if (!power) {
            return -7;
        }
        if (locked) {
            return 0;
        }
        try {
            record(7, 0, 0);
        } catch (PowerFailed e) {
            return -7;
        }
        locked = true;
        return 1;
    }

    int unlock(int code) {
        if (!power) {
            return -7;
        }
        if (!locked || code != Desk.code((int) machine, refills, 0)) {
            return 0;
        }
        try {
            record(8, 0, 0);
        } catch (PowerFailed e) {
            return -7;
        }
        locked = false;
        return 1;
    }

    int cut(int writes, int keep) {
        if (writes < 0 || writes > 100000) {
            return -1;
        }
        left = writes;
        mask = keep;
        return 1;
    }

    int mount() {
        power = true;
        return number;
    }

    int uncertain() {
        return !power ? -7 : uncertain != 0 ? 1 : 0;
    }

    int settle(boolean wasPrinted) {
        if (!power) {
            return -7;
        }
        if (uncertain == 0) {
            return 0;
        }
        try {
            record(3, wasPrinted ? 1 : 0, 0);
        } catch (PowerFailed e) {
            return -7;
        }
        if (!wasPrinted) {
            descending += uncertain;
            claimed += uncertain;
        }
        uncertain = 0;
        return 1;
    }

    int wear(int sector) {
        return sector < 0 || sector > 15 ? -1 : wear[sector];
    }

    int word(int sector, int i) {
        return sector < 0 || sector > 15 || i < 0 || i > 255 ? -1 : words[sector][i];
    }

    int sound() {
        return power ? 1 : -7;
    }
}
