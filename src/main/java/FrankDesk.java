import java.util.Arrays;

/**
 * A machine that prints postage and keeps its books in a memory that may lose power at any word.
 *
 * Nothing is allocated after the constructor: all rows are made once and used again.
 */
public final class FrankDesk {
    public static final int NO = 0, YES = 1, BAD = -1, CUT = -7;

    private static final int LAST_MACHINE = 9_999_999;
    private static final int MOST_CENTS = 999_999_999;
    private static final int LAST_DAY = 100_000;
    private static final int MOST_LEFT = 100_000;
    private static final int PIECES_A_CLAIM = 100;
    private static final long LOADED_BOUND = 1L << 40;

    private final int machine;
    private final Rates rates;
    private final Memory memory;
    private final Books books;
    private final Journal journal;
    private long piecesOut;
    private long centsOut;

    public FrankDesk(int machine) {
        this.machine = Math.max(1, Math.min(machine, LAST_MACHINE));
        this.rates = new Rates();
        this.memory = new Memory();
        this.books = new Books();
        this.journal = new Journal(this.memory, this.books);
    }

    public int rate(int zone, int step, int service, int cents) {
        if (cents < 0 || cents > MOST_CENTS) {
            return BAD;
        }
        return rates.draft(zone, step, service, cents) ? YES : BAD;
    }

    public int loadTable(int version) {
        if (!memory.hasPower()) {
            return CUT;
        }
        if (version < 0 || version < books.at(Books.VERSION)) {
            return NO;
        }
        int answer = journal.append(Books.NEW_VERSION, version, 0);
        // The table lives outside the memory, so it changes only once its record is whole.
        if (answer == YES) {
            rates.useDrafts();
        }
        return answer;
    }

    public int weigh(int zone, int grams, int service) {
        int cents = rates.priceOf(zone, grams, service);
        return cents == 0 ? BAD : cents;
    }

    public int frank(int department, int cents, int day) {
        if (!memory.hasPower()) {
            return CUT;
        }
        if (!mayFrank(department, cents, day)) {
            return NO;
        }
        if (journal.append(Books.PIECE, cents, department + Books.DEPARTMENTS * day) != YES) {
            return CUT;
        }
        // Printing stands between the two records: whatever came out is booked already.
        piecesOut++;
        centsOut += cents;
        return journal.append(Books.PIECE_DONE, 0, 0);
    }

    public long printed(int what) {
        switch (what) {
            case 0:
                return piecesOut;
            case 1:
                return centsOut;
            default:
                return BAD;
        }
    }

    public int refill(int cents, int code) {
        if (!memory.hasPower()) {
            return CUT;
        }
        if (!areCents(cents) || code != codeFor(books.at(Books.REFILLS), cents)) {
            return NO;
        }
        if (books.sumAt(Books.LOADED) + cents >= LOADED_BOUND) {
            return NO;
        }
        return journal.append(Books.REFILL, cents, 0);
    }

    public int codeFor(int counter, int cents) {
        if (counter < 0 || cents < 0) {
            return BAD;
        }
        long code = (machine * 1_009L + counter) * 1_000_003L + cents * 7_919L;
        return (int) (code % 1_000_000L);
    }

    public int claimBack(int day, int cents) {
        if (!memory.hasPower()) {
            return CUT;
        }
        if (books.at(Books.CLAIMS) + 1 > books.at(Books.PIECES) / PIECES_A_CLAIM) {
            return NO;
        }
        if (!areCents(cents) || cents > books.sumAt(Books.ASCENDING) || !isDay(day)) {
            return NO;
        }
        return journal.append(Books.CLAIM, cents, day);
    }

    public long book(int what) {
        if (!memory.hasPower()) {
            return CUT;
        }
        switch (what) {
            case 0:
                return books.sumAt(Books.ASCENDING);
            case 1:
                return books.sumAt(Books.DESCENDING);
            case 2:
                return books.sumAt(Books.LOADED);
            case 3:
                return books.sumAt(Books.CLAIMED);
            case 4:
                return books.at(Books.PIECES);
            case 5:
                return books.at(Books.CLAIMS);
            case 6:
                return books.at(Books.REFILLS);
            case 7:
                return books.at(Books.LOCKED);
            case 8:
                return books.at(Books.INSPECTION_DAY);
            case 9:
                return books.at(Books.VERSION);
            default:
                return BAD;
        }
    }

    public long counter(int department, int what) {
        if (!memory.hasPower()) {
            return CUT;
        }
        if (!isDepartment(department) || !isPiecesOrCents(what)) {
            return BAD;
        }
        return what == 0 ? books.piecesOf(department) : books.centsOf(department);
    }

    public long dayTotal(int day, int what) {
        if (!memory.hasPower()) {
            return CUT;
        }
        if (!isDay(day) || !isPiecesOrCents(what)) {
            return BAD;
        }
        return what == 0 ? books.piecesOn(day) : books.centsOn(day);
    }

    public int inspect(int day) {
        if (!memory.hasPower()) {
            return CUT;
        }
        if (!isDay(day) || day < books.at(Books.INSPECTION_DAY)) {
            return NO;
        }
        return journal.append(Books.INSPECTION, day, 0);
    }

    public int lock() {
        if (!memory.hasPower()) {
            return CUT;
        }
        return isLocked() ? NO : journal.append(Books.LOCKING, 0, 0);
    }

    public int unlock(int code) {
        if (!memory.hasPower()) {
            return CUT;
        }
        if (!isLocked() || code != codeFor(books.at(Books.REFILLS), 0)) {
            return NO;
        }
        return journal.append(Books.UNLOCKING, 0, 0);
    }

    public int cut(int left, int mask) {
        if (left < 0 || left > MOST_LEFT) {
            return BAD;
        }
        memory.expectCut(left, mask);
        return YES;
    }

    public int mount() {
        if (!memory.hasPower()) {
            memory.restorePower();
            journal.reopen();
        }
        return journal.lastNumber();
    }

    public int uncertain() {
        if (!memory.hasPower()) {
            return CUT;
        }
        return isUncertain() ? 1 : 0;
    }

    public int settle(boolean wasPrinted) {
        if (!memory.hasPower()) {
            return CUT;
        }
        return isUncertain() ? journal.append(Books.SETTLING, wasPrinted ? 1 : 0, 0) : NO;
    }

    public int wear(int sector) {
        return memory.holds(sector, 0) ? memory.erasesOf(sector) : BAD;
    }

    public int word(int sector, int i) {
        return memory.holds(sector, i) ? memory.read(sector, i) : BAD;
    }

    public int sound() {
        if (!memory.hasPower()) {
            return CUT;
        }
        boolean holds = books.registersAddUp()
                && books.departmentsAddUp()
                && piecesOut <= books.at(Books.PIECES)
                && centsOut <= books.sumAt(Books.ASCENDING)
                && memory.wearSpread() <= 1 + memory.cutsSuffered();
        return holds ? YES : NO;
    }

    private boolean mayFrank(int department, int cents, int day) {
        return isDepartment(department)
                && isDay(day)
                && areCents(cents)
                && cents <= books.sumAt(Books.DESCENDING)
                && day <= books.at(Books.INSPECTION_DAY)
                && !isLocked()
                && !isUncertain();
    }

    private boolean isLocked() {
        return books.at(Books.LOCKED) != 0;
    }

    private boolean isUncertain() {
        return books.at(Books.UNCERTAIN) != 0;
    }

    private static boolean areCents(int cents) {
        return cents >= 1 && cents <= MOST_CENTS;
    }

    private static boolean isDay(int day) {
        return day >= 0 && day <= LAST_DAY;
    }

    private static boolean isDepartment(int department) {
        return department >= 0 && department < Books.DEPARTMENTS;
    }

    private static boolean isPiecesOrCents(int what) {
        return what == 0 || what == 1;
    }

    /** The drafts of rates and the table in use; they need no power. */
    private static final class Rates {
        private static final int ZONES = 8;
        private static final int STEPS = 10;
        private static final int SERVICES = 4;
        private static final int GRAMS_A_STEP = 50;

        private final int[] drafts = new int[ZONES * STEPS * SERVICES];
        private final int[] table = new int[ZONES * STEPS * SERVICES];

        boolean draft(int zone, int step, int service, int cents) {
            int place = placeOf(zone, step, service);
            if (place < 0 || place >= drafts.length) {
                return false;
            }
            drafts[place] = cents;
            return true;
        }

        /** The drafts stay drafts: a later table starts from them. */
        void useDrafts() {
            for (int i = 0; i < table.length && i < drafts.length; i++) {
                table[i] = drafts[i];
            }
        }

        /** 0, if there is no such rate. */
        int priceOf(int zone, int grams, int service) {
            // Grams below 1 would be cut off towards step 0.
            if (grams < 1) {
                return 0;
            }
            int place = placeOf(zone, (grams - 1) / GRAMS_A_STEP, service);
            return place >= 0 && place < table.length ? table[place] : 0;
        }

        private static int placeOf(int zone, int step, int service) {
            boolean known = zone >= 0 && zone < ZONES
                    && step >= 0 && step < STEPS
                    && service >= 0 && service < SERVICES;
            return known ? (zone * STEPS + step) * SERVICES + service : -1;
        }
    }

    /** The sectors, the power, and the cut that is told. */
    private static final class Memory {
        private static final int SECTORS = 16;
        private static final int WORDS = 256;
        private static final int ALL_ONES = -1;
        private static final int MARK_START = 17;
        private static final int MARK_FACTOR = 31;
        private static final int MARK_MASK = 0x5A5A5A5A;

        private final int[] words = new int[SECTORS * WORDS];
        private final int[] erases = new int[SECTORS];
        private boolean power = true;
        private boolean cutExpected;
        private int left;
        private int mask;
        private int cuts;

        Memory() {
            Arrays.fill(words, ALL_ONES);
        }

        boolean holds(int sector, int i) {
            return sector >= 0 && sector < SECTORS && i >= 0 && i < WORDS;
        }

        int read(int sector, int i) {
            return holds(sector, i) ? words[sector * WORDS + i] : ALL_ONES;
        }

        boolean write(int sector, int i, int value) {
            if (!holds(sector, i) || !spendOne()) {
                return false;
            }
            words[sector * WORDS + i] = value;
            return true;
        }

        boolean eraseSector(int sector) {
            if (!power || !holds(sector, 0)) {
                return false;
            }
            boolean whole = spendOne();
            erases[sector]++;
            int kept = whole ? 0 : mask;
            for (int i = 0; i < WORDS; i++) {
                if ((kept >>> (i % 32) & 1) == 0) {
                    words[sector * WORDS + i] = ALL_ONES;
                }
            }
            return whole;
        }

        /** The mark of so many words from one on. */
        int markOf(int sector, int from, int count) {
            int m = MARK_START;
            for (int i = 0; i < count && i < WORDS; i++) {
                m = MARK_FACTOR * m + read(sector, from + i);
            }
            m ^= MARK_MASK;
            // A mark of all ones could not be told from one that was never written.
            return m == ALL_ONES ? 0 : m;
        }

        boolean areBlank(int sector, int from, int count) {
            for (int i = 0; i < count && i < WORDS; i++) {
                if (read(sector, from + i) != ALL_ONES) {
                    return false;
                }
            }
            return true;
        }

        int erasesOf(int sector) {
            return holds(sector, 0) ? erases[sector] : 0;
        }

        /** How far the most and the least worn sector are apart. */
        int wearSpread() {
            int least = erasesOf(0);
            int most = least;
            for (int sector = 1; sector < SECTORS; sector++) {
                least = Math.min(least, erasesOf(sector));
                most = Math.max(most, erasesOf(sector));
            }
            return most - least;
        }

        void expectCut(int writesLeft, int keptMask) {
            cutExpected = true;
            left = writesLeft;
            mask = keptMask;
        }

        int cutsSuffered() {
            return cuts;
        }

        boolean hasPower() {
            return power;
        }

        void restorePower() {
            power = true;
        }

        /** Whether the next write or erase is done; if not, power fails here. */
        private boolean spendOne() {
            if (!power) {
                return false;
            }
            if (!cutExpected) {
                return true;
            }
            if (left > 0) {
                left--;
                return true;
            }
            cutExpected = false;
            power = false;
            cuts++;
            return false;
        }
    }

    /** The books word by word as a sector holds them, and what records make of them. */
    private static final class Books {
        private static final int PIECE = 1;
        private static final int PIECE_DONE = 2;
        private static final int SETTLING = 3;
        private static final int REFILL = 4;
        private static final int CLAIM = 5;
        private static final int INSPECTION = 6;
        private static final int LOCKING = 7;
        private static final int UNLOCKING = 8;
        private static final int NEW_VERSION = 9;

        private static final int ASCENDING = 0;
        private static final int DESCENDING = 2;
        private static final int LOADED = 4;
        private static final int CLAIMED = 6;
        private static final int PIECES = 8;
        private static final int CLAIMS = 9;
        private static final int REFILLS = 10;
        private static final int LOCKED = 11;
        private static final int INSPECTION_DAY = 12;
        private static final int VERSION = 13;
        private static final int UNCERTAIN = 14;
        private static final int FIRST_DEPARTMENT = 15;
        private static final int DEPARTMENTS = 16;
        private static final int DEPARTMENT_WORDS = 3;
        private static final int FIRST_DAY = FIRST_DEPARTMENT + DEPARTMENTS * DEPARTMENT_WORDS;
        private static final int DAY_PLACES = 32;
        private static final int DAY_WORDS = 4;
        private static final int SIZE = FIRST_DAY + DAY_PLACES * DAY_WORDS;

        private static final int NO_DAY = -1;
        private static final int FIRST_INSPECTION_DAY = 1_000;

        private final int[] words = new int[SIZE];

        Books() {
            put(INSPECTION_DAY, FIRST_INSPECTION_DAY);
            for (int place = 0; place < DAY_PLACES; place++) {
                put(FIRST_DAY + place * DAY_WORDS, NO_DAY);
            }
        }

        int at(int i) {
            return i >= 0 && i < words.length ? words[i] : 0;
        }

        void put(int i, int value) {
            if (i >= 0 && i < words.length) {
                words[i] = value;
            }
        }

        /** A sum of two words, the lower one first. */
        long sumAt(int i) {
            return ((long) at(i + 1) << 32) | (at(i) & 0xFFFF_FFFFL);
        }

        int piecesOf(int department) {
            return at(departmentAt(department));
        }

        long centsOf(int department) {
            return sumAt(departmentAt(department) + 1);
        }

        int piecesOn(int day) {
            int place = placeOfDay(day);
            return at(place) == day ? at(place + 1) : 0;
        }

        long centsOn(int day) {
            int place = placeOfDay(day);
            return at(place) == day ? sumAt(place + 2) : 0;
        }

        boolean registersAddUp() {
            return sumAt(ASCENDING) + sumAt(DESCENDING) == sumAt(LOADED) + sumAt(CLAIMED);
        }

        boolean departmentsAddUp() {
            long pieces = 0;
            long cents = 0;
            for (int department = 0; department < DEPARTMENTS; department++) {
                pieces += piecesOf(department);
                cents += centsOf(department);
            }
            return pieces == at(PIECES) && cents == sumAt(ASCENDING);
        }

        void apply(int kind, int a, int b) {
            switch (kind) {
                case PIECE:
                    addPiece(a, b % DEPARTMENTS);
                    addToDay(a, b / DEPARTMENTS);
                    break;
                case PIECE_DONE:
                    put(UNCERTAIN, 0);
                    break;
                case SETTLING:
                    settleFor(a);
                    break;
                case REFILL:
                    addToSum(DESCENDING, a);
                    addToSum(LOADED, a);
                    addOne(REFILLS);
                    break;
                case CLAIM:
                    addToSum(DESCENDING, a);
                    addToSum(CLAIMED, a);
                    addOne(CLAIMS);
                    break;
                case INSPECTION:
                    put(INSPECTION_DAY, a);
                    break;
                case LOCKING:
                    put(LOCKED, 1);
                    break;
                case UNLOCKING:
                    put(LOCKED, 0);
                    break;
                case NEW_VERSION:
                    put(VERSION, a);
                    break;
                default:
                    break;
            }
        }

        private void addPiece(int cents, int department) {
            addToSum(ASCENDING, cents);
            addToSum(DESCENDING, -cents);
            addOne(PIECES);
            addOne(departmentAt(department));
            addToSum(departmentAt(department) + 1, cents);
            put(UNCERTAIN, cents);
        }

        private void addToDay(int cents, int day) {
            int place = placeOfDay(day);
            if (at(place) == NO_DAY || at(place) < day) {
                put(place, day);
                put(place + 1, 0);
                put(place + 2, 0);
                put(place + 3, 0);
            }
            if (at(place) == day) {
                addOne(place + 1);
                addToSum(place + 2, cents);
            }
        }

        private void settleFor(int wasPrinted) {
            if (wasPrinted == 0) {
                addToSum(DESCENDING, at(UNCERTAIN));
                addToSum(CLAIMED, at(UNCERTAIN));
            }
            put(UNCERTAIN, 0);
        }

        private void addOne(int i) {
            put(i, at(i) + 1);
        }

        private void addToSum(int i, int more) {
            long sum = sumAt(i) + more;
            put(i, (int) sum);
            put(i + 1, (int) (sum >>> 32));
        }

        private static int departmentAt(int department) {
            return FIRST_DEPARTMENT + department * DEPARTMENT_WORDS;
        }

        private static int placeOfDay(int day) {
            return FIRST_DAY + day % DAY_PLACES * DAY_WORDS;
        }
    }

    /** The sector in use with its records; keeps the books in step with the memory. */
    private static final class Journal {
        private static final int GENERATION_AT = 0;
        private static final int NUMBER_AT = 1;
        private static final int BOOKS_AT = 2;
        private static final int MARK_AT = BOOKS_AT + Books.SIZE;
        private static final int RECORDS_AT = MARK_AT + 1;
        private static final int MOST_RECORDS = 12;
        private static final int RECORD_WORDS = 5;
        private static final int RECORD_MARK = 4;

        private final Memory memory;
        private final Books books;
        private int sector;
        private int records;
        private int last;

        Journal(Memory memory, Books books) {
            this.memory = memory;
            this.books = books;
            startSector(0, 1);
        }

        int lastNumber() {
            return last;
        }

        /** YES, or CUT if power failed before the record was whole; the books follow only a whole one. */
        int append(int kind, int a, int b) {
            if (!hasRoom() && !startSector((sector + 1) % Memory.SECTORS, memory.read(sector, GENERATION_AT) + 1)) {
                return CUT;
            }
            int at = recordAt(records);
            boolean whole = memory.write(sector, at, last + 1)
                    && memory.write(sector, at + 1, kind)
                    && memory.write(sector, at + 2, a)
                    && memory.write(sector, at + 3, b)
                    && memory.write(sector, at + RECORD_MARK, memory.markOf(sector, at, RECORD_MARK));
            if (!whole) {
                return CUT;
            }
            books.apply(kind, a, b);
            records++;
            last++;
            return YES;
        }

        /** Takes the books from the memory alone, as nothing else outlives a cut. */
        void reopen() {
            sector = newestSector();
            records = 0;
            last = memory.read(sector, NUMBER_AT);
            for (int i = 0; i < Books.SIZE; i++) {
                books.put(i, memory.read(sector, BOOKS_AT + i));
            }
            for (int i = 0; i < MOST_RECORDS && isNextRecord(recordAt(i)); i++) {
                int at = recordAt(i);
                books.apply(memory.read(sector, at + 1), memory.read(sector, at + 2), memory.read(sector, at + 3));
                records++;
                last++;
            }
        }

        private boolean hasRoom() {
            return records < MOST_RECORDS && memory.areBlank(sector, recordAt(records), RECORD_WORDS);
        }

        private boolean startSector(int next, int generation) {
            boolean whole = memory.eraseSector(next)
                    && memory.write(next, GENERATION_AT, generation)
                    && memory.write(next, NUMBER_AT, last)
                    && writeBooks(next)
                    && memory.write(next, MARK_AT, memory.markOf(next, 0, MARK_AT));
            if (whole) {
                sector = next;
                records = 0;
            }
            return whole;
        }

        private boolean writeBooks(int next) {
            for (int i = 0; i < Books.SIZE; i++) {
                if (!memory.write(next, BOOKS_AT + i, books.at(i))) {
                    return false;
                }
            }
            return true;
        }

        private int newestSector() {
            int newest = sector;
            boolean found = false;
            for (int s = 0; s < Memory.SECTORS; s++) {
                if (isMarked(s) && (!found || isNewer(s, newest))) {
                    newest = s;
                    found = true;
                }
            }
            return newest;
        }

        private boolean isMarked(int s) {
            return memory.read(s, MARK_AT) == memory.markOf(s, 0, MARK_AT);
        }

        private boolean isNewer(int s, int other) {
            return memory.read(s, GENERATION_AT) > memory.read(other, GENERATION_AT);
        }

        private boolean isNextRecord(int at) {
            return memory.read(sector, at) == last + 1
                    && memory.read(sector, at + RECORD_MARK) == memory.markOf(sector, at, RECORD_MARK);
        }

        private static int recordAt(int i) {
            return RECORDS_AT + i * RECORD_WORDS;
        }
    }
}
