/** Terms: the memory, its sectors and words; writing and erasing. */
public final class T01MemoryTest {
    private static final int A_LAP = 16 * 12;

    public static void main(String[] args) {
        Due due = new Due();
        allOnesAtFirst(due);
        sectors(due);
        wordsOfASector(due);
        bits(due);
        recordWordsDoneOrNot(due);
        sectorWordsDoneOrNot(due);
        erasedWhole(due);
        erasedAlone(due);
        due.end();
    }

    private static void allOnesAtFirst(Due due) {
        due.of("at first all ones");
        for (int sector = 0; sector < 16; sector++) {
            FrankDesk x = new FrankDesk(77);
            for (int i = sector == 0 ? 194 : 0; i < 256; i++) {
                due.is("word(" + sector + ", " + i + ")", x.word(sector, i), Desk.ALL_ONES);
            }
        }
    }

    private static void sectors(Due due) {
        due.of("16 SECTORS");
        FrankDesk x = new FrankDesk(77);
        Desk.writeMany(x, A_LAP);
        for (int sector = 0; sector < 16; sector++) {
            due.is("word(" + sector + ", 0)", x.word(sector, 0), sector + 1);
        }
        due.is("word(-1, 0)", x.word(-1, 0), -1);
        due.is("word(16, 0)", x.word(16, 0), -1);
    }

    private static void wordsOfASector(Due due) {
        due.of("256 WORDS");
        FrankDesk x = new FrankDesk(77);
        Desk.writeMany(x, A_LAP);
        for (int sector = 0; sector < 16; sector++) {
            due.is("word(" + sector + ", -1)", x.word(sector, -1), -1);
            due.is("word(" + sector + ", 0)", x.word(sector, 0), sector + 1);
            due.is("word(" + sector + ", 253)", x.word(sector, 253), Desk.mark(12 * sector + 12, 6, 1000, 0));
            due.is("word(" + sector + ", 254)", x.word(sector, 254), Desk.ALL_ONES);
            due.is("word(" + sector + ", 255)", x.word(sector, 255), Desk.ALL_ONES);
            due.is("word(" + sector + ", 256)", x.word(sector, 256), -1);
        }
    }

    private static void bits(Due due) {
        due.of("WORDS of 32 bits");
        FrankDesk x = new FrankDesk(77);
        Desk.loadUpTo(x, 2_999_999_997L);
        Desk.writeMany(x, 10);
        due.is("the lower word of loaded", x.word(1, 6), (int) 2_999_999_997L);
        due.is("the upper word of loaded", x.word(1, 7), 0);
        x.loadTable(Integer.MAX_VALUE);
        due.is("the version's record", x.word(1, 201), Integer.MAX_VALUE);
    }

    private static void recordWordsDoneOrNot(Due due) {
        due.of("Writing a word is done or not");
        int[] record = {2, 1, 100, 3 + 16 * 40, Desk.mark(2, 1, 100, 3 + 16 * 40)};
        for (int left = 0; left <= 5; left++) {
            FrankDesk x = Desk.filled(1000);
            x.cut(left, 0);
            x.frank(3, 100, 40);
            for (int i = 0; i < 5; i++) {
                due.is("word " + i + " with " + left + " left", x.word(0, 199 + i), i < left ? record[i] : Desk.ALL_ONES);
            }
        }
    }

    private static void sectorWordsDoneOrNot(Due due) {
        due.of("Writing a word is done or not");
        FrankDesk whole = new FrankDesk(77);
        Desk.writeMany(whole, 13);
        for (int left = 1; left <= 195; left++) {
            FrankDesk x = new FrankDesk(77);
            Desk.writeMany(x, 12);
            x.cut(left, -1);
            x.inspect(1000);
            for (int i = 0; i < 256; i++) {
                due.is("word(1, " + i + ") with " + left + " left", x.word(1, i), i < left - 1 ? whole.word(1, i) : Desk.ALL_ONES);
            }
        }
    }

    /** The erase is the one write or erase that is left, so its mask plays no part. */
    private static void erasedWhole(Due due) {
        due.of("ERASING makes all words of a sector all ones");
        for (int mask : new int[] {0, -1, 0x55555555}) {
            FrankDesk x = new FrankDesk(77);
            Desk.writeMany(x, A_LAP);
            x.cut(1, mask);
            due.is("a record", x.inspect(1000), FrankDesk.CUT);
            for (int i = 0; i < 256; i++) {
                due.is("word(0, " + i + ")", x.word(0, i), Desk.ALL_ONES);
            }
        }
    }

    private static void erasedAlone(Due due) {
        due.of("all words of a sector, and of no other");
        for (int mask : new int[] {0, -1}) {
            for (int left = 0; left < 2; left++) {
                FrankDesk before = new FrankDesk(77);
                FrankDesk x = new FrankDesk(77);
                Desk.writeMany(before, A_LAP);
                Desk.writeMany(x, A_LAP);
                x.cut(left, mask);
                x.inspect(1000);
                for (int at = 256; at < 4096; at++) {
                    due.is("word " + at, x.word(at / 256, at % 256), before.word(at / 256, at % 256));
                }
            }
        }
    }
}
