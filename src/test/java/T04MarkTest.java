/** Terms: the mark, and the one that would be all ones. */
public final class T04MarkTest {
    /** With this version the mark of a first record of kind 9 would be all ones. */
    private static final int VERSION_OF_ALL_ONES = 1_474_613_908;
    private static final int RAW_ALL_ONES = ~0x5A5A5A5A;

    public static void main(String[] args) {
        Due due = new Due();
        ordinary(due);
        allOnesOfARecord(due);
        recordWithoutThatMark(due);
        allOnesOfASector(due);
        sectorWithoutThatMark(due);
        due.end();
    }

    private static void ordinary(Due due) {
        due.of("m = 17, and for each of them m = 31 m + the word; then m xor 5A5A5A5A, all in 32 bits");
        FrankDesk x = new FrankDesk(77);
        due.is("the mark of a new sector", x.word(0, 193), -816_160_190);
        x.loadTable(3);
        due.is("the mark of 1, 9, 3, 0", x.word(0, 198), 1_521_122_380);
        x.loadTable(Integer.MAX_VALUE);
        due.is("the mark of 2, 9, most, 0", x.word(0, 203), Desk.mark(2, 9, Integer.MAX_VALUE, 0));
        Desk.writeMany(x, 11);
        due.is("the mark of the next sector", x.word(1, 193), Desk.mark(Desk.words(x, 1, 0, 193)));
    }

    private static void allOnesOfARecord(Due due) {
        due.of("if that is all ones, 0: a record");
        FrankDesk x = new FrankDesk(77);
        due.is("loadTable", x.loadTable(VERSION_OF_ALL_ONES), 1);
        due.is("its mark", x.word(0, 198), 0);
        Desk.cycle(x);
        due.is("mount()", x.mount(), 1);
        due.is("the version", x.book(9), VERSION_OF_ALL_ONES);
        FrankDesk y = new FrankDesk(77);
        y.loadTable(VERSION_OF_ALL_ONES - 1);
        due.is("a mark beside it", y.word(0, 198), Desk.mark(1, 9, VERSION_OF_ALL_ONES - 1, 0));
        due.holds("it is not 0", y.word(0, 198) != 0);
    }

    /** The mark's word is all ones still, which must not be the right mark of the other four. */
    private static void recordWithoutThatMark(Due due) {
        due.of("if that is all ones, 0: a record whose mark was not written is none");
        FrankDesk x = new FrankDesk(77);
        x.cut(4, 0);
        due.is("loadTable", x.loadTable(VERSION_OF_ALL_ONES), FrankDesk.CUT);
        due.is("the mark's word", x.word(0, 198), Desk.ALL_ONES);
        due.is("mount()", x.mount(), 0);
        due.is("the version", x.book(9), 0);
    }

    private static void allOnesOfASector(Due due) {
        due.of("if that is all ones, 0: a sector");
        FrankDesk x = beforeTheSectorOfAllOnes();
        due.is("record 13", x.inspect(100_000), 1);
        due.is("the mark", x.word(1, 193), 0);
        Desk.cycle(x);
        due.is("mount()", x.mount(), 13);
        due.is("the day", x.book(8), 100_000);
    }

    private static void sectorWithoutThatMark(Due due) {
        due.of("if that is all ones, 0: a sector whose mark was not written is not in use");
        FrankDesk x = beforeTheSectorOfAllOnes();
        x.cut(194, 0);
        due.is("record 13", x.inspect(100_000), FrankDesk.CUT);
        due.is("the mark's word", x.word(1, 193), Desk.ALL_ONES);
        due.is("mount()", x.mount(), 12);
        due.is("record 13 anew", x.inspect(100_000), 1);
        due.is("the sector was erased anew", x.wear(1), 2);
        due.is("the mark", x.word(1, 193), 0);
    }

    /** A desk with twelve records, by whose books the mark of sector 1 would be all ones. */
    private static FrankDesk beforeTheSectorOfAllOnes() {
        for (int cents = 1; cents < 100; cents++) {
            FrankDesk probe = twelveRecords(0, cents);
            probe.inspect(100_000);
            int version = versionFor(Desk.words(probe, 1, 0, 193));
            if (version >= 0) {
                return twelveRecords(version, cents);
            }
        }
        throw new IllegalStateException("no such version");
    }

    private static FrankDesk twelveRecords(int version, int cents) {
        FrankDesk x = Desk.filled(cents);
        x.loadTable(version);
        Desk.writeMany(x, 10);
        return x;
    }

    /** What must stand in the place of a version of 0, word 15, so that the mark would be all ones. */
    private static int versionFor(int[] words) {
        int m = 17;
        int weight = 1;
        for (int i = 0; i < words.length; i++) {
            m = 31 * m + words[i];
            weight = i > 15 ? 31 * weight : weight;
        }
        return (RAW_ALL_ONES - m) * inverse(weight);
    }

    /** The inverse of an odd number in 32 bits: each step doubles the bits that are right. */
    private static int inverse(int odd) {
        int result = odd;
        for (int i = 0; i < 5; i++) {
            result *= 2 - odd * result;
        }
        return result;
    }
}
