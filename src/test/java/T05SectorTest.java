/** Terms: a sector in use, its twelve records, and the way to the next one. */
public final class T05SectorTest {
    public static void main(String[] args) {
        Due due = new Due();
        atFirst(due);
        countFromOne(due);
        twelve(due);
        placeIsBlank(due);
        placeIsNotBlank(due);
        placeBentByHand(due);
        sectorFullAndCut(due);
        failedStartOfASector(due);
        roundAndRound(due);
        pieceOverTheEnd(due);
        due.end();
    }

    private static void atFirst(Due due) {
        due.of("At first sector 0 has generation 1, number 0, the books as at first (erased, and written so, without a cut)");
        FrankDesk x = new FrankDesk(77);
        due.is("generation", x.word(0, 0), 1);
        due.is("number", x.word(0, 1), 0);
        due.is("mark", x.word(0, 193), Desk.mark(Desk.words(x, 0, 0, 193)));
        due.is("wear(0)", x.wear(0), 1);
        due.is("power is there", x.book(8), 1000);
    }

    private static void countFromOne(Due due) {
        due.of("Records count from 1 on");
        FrankDesk x = new FrankDesk(77);
        due.is("mount() without a record", x.mount(), 0);
        x.inspect(1000);
        due.is("the number of the first", x.word(0, 194), 1);
        due.is("mount()", x.mount(), 1);
        x.inspect(1000);
        due.is("the number of the second", x.word(0, 199), 2);
    }

    private static void twelve(Due due) {
        due.of("from 194 on twelve RECORDS of five words; if twelve are there, first the next sector is erased");
        for (int records = 1; records <= 14; records++) {
            FrankDesk x = new FrankDesk(77);
            for (int i = 1; i <= records; i++) {
                x.inspect(1000 + i);
            }
            for (int i = 1; i <= records; i++) {
                Desk.record(due, x, i <= 12 ? 0 : 1, i <= 12 ? i - 1 : i - 13, i, 6, 1000 + i, 0);
            }
            due.is("wear(1) of " + records, x.wear(1), records <= 12 ? 0 : 1);
            due.is("word(0, 254) of " + records, x.word(0, 254), Desk.ALL_ONES);
            due.is("word(0, 255) of " + records, x.word(0, 255), Desk.ALL_ONES);
            due.is("number in sector 1", x.word(1, 1), records <= 12 ? Desk.ALL_ONES : 12);
        }
    }

    private static void placeIsBlank(Due due) {
        due.of("A RECORD is written word by word behind the last one: a cut before its first word leaves the place all ones");
        for (int place = 0; place < 12; place++) {
            FrankDesk x = cutInRecord(place, 0);
            due.is("mount()", x.mount(), place);
            due.is("a record", x.inspect(2000), 1);
            due.is("no erase", x.wear(1), 0);
            Desk.record(due, x, 0, place, place + 1, 6, 2000, 0);
        }
    }

    private static void placeIsNotBlank(Due due) {
        due.of("or if the place behind the last one is not all ones, first the next sector is erased");
        for (int place = 0; place < 12; place++) {
            for (int left = 1; left < 5; left++) {
                FrankDesk x = cutInRecord(place, left);
                due.is("mount()", x.mount(), place);
                due.is("a record", x.inspect(2000), 1);
                due.is("an erase", x.wear(1), 1);
                due.is("generation", x.word(1, 0), 2);
                due.is("number", x.word(1, 1), place);
                due.is("the inspection day in its books", x.word(1, 14), 1000 + place);
                Desk.record(due, x, 1, 0, place + 1, 6, 2000, 0);
                Desk.cycle(x);
                due.is("mount() behind a cut", x.mount(), place + 1);
                due.is("the inspection day", x.book(8), 2000);
            }
        }
    }

    private static FrankDesk cutInRecord(int place, int left) {
        FrankDesk x = new FrankDesk(77);
        for (int i = 1; i <= place; i++) {
            x.inspect(1000 + i);
        }
        x.cut(left, 0);
        x.inspect(1999);
        return x;
    }

    /** No call leaves any but the first words of a place written, so that one is bent by hand. */
    private static void placeBentByHand(Due due) {
        due.of("the place behind the last one is not all ones: any word of it, and none behind it");
        for (int place = 0; place < 12; place++) {
            for (int word = -1; word <= 5; word++) {
                FrankDesk x = new FrankDesk(77);
                Desk.writeMany(x, place);
                Desk.powerOff(x);
                boolean ofThePlace = word >= 0 && word < 5;
                if (ofThePlace || word == 5) {
                    Inside.memory(x)[194 + 5 * place + word] = 0;
                }
                x.mount();
                due.is("a record", x.inspect(1000), 1);
                due.is("wear(1) with word " + word + " of place " + place, x.wear(1), ofThePlace ? 1 : 0);
            }
        }
    }

    private static void sectorFullAndCut(Due due) {
        due.of("If twelve are there .. the record is its first one then: a cut between the sector's mark and the record");
        FrankDesk x = new FrankDesk(77);
        Desk.writeMany(x, 12);
        x.cut(195, 0);
        due.is("record 13", x.inspect(2000), FrankDesk.CUT);
        due.is("mount()", x.mount(), 12);
        due.is("the books", x.book(8), 1000);
        due.is("record 13 anew", x.inspect(3000), 1);
        due.is("wear(1)", x.wear(1), 1);
        due.is("wear(2)", x.wear(2), 0);
        Desk.record(due, x, 1, 0, 13, 6, 3000, 0);
    }

    private static void failedStartOfASector(Due due) {
        due.of("the next generation: behind a failed one it is the same once more");
        FrankDesk x = new FrankDesk(77);
        Desk.writeMany(x, 12);
        for (int left : new int[] {0, 1, 2, 3, 100, 193, 194}) {
            x.cut(left, -1);
            due.is("record 13", x.inspect(2000), FrankDesk.CUT);
            due.is("mount()", x.mount(), 12);
        }
        due.is("record 13", x.inspect(2000), 1);
        due.is("wear(1)", x.wear(1), 8);
        due.is("wear(2)", x.wear(2), 0);
        due.is("generation", x.word(1, 0), 2);
        due.is("number", x.word(1, 1), 12);
        Desk.record(due, x, 1, 0, 13, 6, 2000, 0);
    }

    private static void roundAndRound(Due due) {
        due.of("the next sector (round and round)");
        FrankDesk x = new FrankDesk(77);
        for (int number = 1; number <= 34 * 12 + 1; number++) {
            due.is("record " + number, x.inspect(1000 + number), 1);
            int started = (number - 1) / 12;
            if (number % 12 == 1) {
                due.is("generation of sector " + started % 16, x.word(started % 16, 0), started + 1);
                due.is("number in it", x.word(started % 16, 1), number - 1);
            }
        }
        for (int sector = 0; sector < 16; sector++) {
            due.is("wear(" + sector + ")", x.wear(sector), sector <= 2 ? 3 : 2);
        }
        Desk.record(due, x, 2, 0, 34 * 12 + 1, 6, 1000 + 34 * 12 + 1, 0);
        due.is("the place behind it", x.word(2, 199), Desk.ALL_ONES);
        Desk.cycle(x);
        due.is("mount()", x.mount(), 34 * 12 + 1);
        due.is("the day", x.book(8), 1000 + 34 * 12 + 1);
    }

    /** Its second record needs a new sector, whose books already know the first one. */
    private static void pieceOverTheEnd(Due due) {
        due.of("the books, word by word: of the last record whose number is there");
        FrankDesk x = Desk.filled(1000);
        Desk.writeMany(x, 10);
        due.is("frank", x.frank(4, 70, 3), 1);
        Desk.record(due, x, 0, 11, 12, 1, 70, 4 + 16 * 3);
        due.is("number", x.word(1, 1), 12);
        due.is("ascending", x.word(1, 2), 70);
        due.is("uncertain", x.word(1, 16), 70);
        Desk.record(due, x, 1, 0, 13, 2, 0, 0);
        due.is("uncertain()", x.uncertain(), 0);
        Desk.cycle(x);
        due.is("uncertain() behind a cut", x.uncertain(), 0);
        due.is("ascending behind a cut", x.book(0), 70);
    }
}
