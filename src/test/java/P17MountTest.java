import java.util.Arrays;
import java.util.HashMap;
import java.util.Map;

/** Promise 17: mount, and how records go from sector to sector. */
public final class P17MountTest {
    public static void main(String[] args) {
        Due due = new Due();
        numbers(due);
        sectorWithoutARecord(due);
        powerIsThere(due);
        everyCutOfANewSector(due);
        withPower(due);
        signs(due);
        failedEraseWithARightMark(due);
        booksOfTheMemoryAlone(due);
        greatestGeneration(due);
        brokenRecords(due);
        again(due);
        due.end();
    }

    private static void numbers(Due due) {
        due.of("The number of the last one");
        FrankDesk x = new FrankDesk(77);
        for (int i = 0; i < 230; i++) {
            due.is("mount() of " + i + " records", x.mount(), i);
            due.is("inspect", x.inspect(1000 + i), 1);
        }
        Desk.powerOff(x);
        due.is("mount() behind a cut", x.mount(), 230);
        due.is("the day", x.book(8), 1229);
        for (int records = 0; records <= 30; records++) {
            FrankDesk y = new FrankDesk(77);
            Desk.writeMany(y, records);
            Desk.powerOff(y);
            due.is("mount() of " + records + " records, behind a cut", y.mount(), records);
        }
    }

    private static void sectorWithoutARecord(Due due) {
        due.of("The number of the last one: which is in the books, if the sector has no record");
        for (int sectors = 1; sectors <= 17; sectors++) {
            FrankDesk x = new FrankDesk(77);
            for (int i = 1; i <= 12 * sectors; i++) {
                x.inspect(1000 + i);
            }
            x.cut(195, 0);
            due.is("an erase and 194 words, and no more", x.inspect(2000), FrankDesk.CUT);
            due.is("mount()", x.mount(), 12 * sectors);
            due.is("the day", x.book(8), 1000 + 12 * sectors);
            due.is("no record yet", x.word(sectors % 16, 194), Desk.ALL_ONES);
            due.is("inspect", x.inspect(2000), 1);
            due.is("no other erase", x.wear(sectors % 16), sectors < 16 ? 1 : 2);
            Desk.record(due, x, sectors % 16, 0, 12 * sectors + 1, 6, 2000, 0);
        }
    }

    private static void powerIsThere(Due due) {
        due.of("Power is there");
        FrankDesk x = Desk.filled(1000);
        Desk.powerOff(x);
        due.is("book(1) before", x.book(1), FrankDesk.CUT);
        due.is("mount()", x.mount(), 1);
        due.is("book(1)", x.book(1), 1000);
        due.is("frank", x.frank(0, 1, 1), 1);
    }

    private static void everyCutOfANewSector(Due due) {
        due.of("of the sectors with a right mark: a new one has it only with its last word");
        for (int left = 0; left <= 200; left++) {
            FrankDesk x = new FrankDesk(77);
            for (int i = 0; i < 12; i++) {
                x.inspect(1000 + i);
            }
            x.cut(left, 0x33333333);
            due.is("inspect with " + left + " left", x.inspect(2000), left == 200 ? 1 : -7);
            due.is("mount() with " + left + " left", x.mount(), left == 200 ? 13 : 12);
            due.is("the day with " + left + " left", x.book(8), left == 200 ? 2000 : 1011);
            x.cut(100_000, 0);
            due.is("inspect again", x.inspect(3000), 1);
            boolean anew = left < 195;
            due.is("wear(1) with " + left + " left", x.wear(1), anew ? 2 : 1);
            due.is("wear(2) with " + left + " left", x.wear(2), left > 195 && left < 200 ? 1 : 0);
            due.is("sound() with " + left + " left", x.sound(), 1);
        }
    }

    private static void withPower(Due due) {
        due.of("Also with power: nothing is other then");
        FrankDesk x = Desk.uncertainAbout(1000, 10);
        x.cut(3, 0);
        due.is("mount()", x.mount(), 2);
        due.is("mount() again", x.mount(), 2);
        due.is("uncertain()", x.uncertain(), 1);
        due.is("book(0)", x.book(0), 10);
        due.is("settle", x.settle(true), -7);
        due.is("mount() behind the cut", x.mount(), 2);
        for (int records = 0; records <= 26; records++) {
            FrankDesk y = new FrankDesk(77);
            FrankDesk untouched = new FrankDesk(77);
            Desk.writeMany(y, records);
            Desk.writeMany(untouched, records);
            due.is("mount()", y.mount(), records);
            due.is("the first place that looks other", Look.at(y).differsAt(Look.at(untouched)), -1);
        }
    }

    /** No call brings a generation near an end of its word, so that it is written by hand. */
    private static void signs(Due due) {
        due.of("the greatest generation (with sign)");
        int[][] pairs = {{0, -1}, {1, -1}, {1, 0}, {Integer.MAX_VALUE, Integer.MIN_VALUE}, {Integer.MAX_VALUE, -1},
            {Integer.MAX_VALUE, Integer.MAX_VALUE - 1}, {-1, -2}, {-1, Integer.MIN_VALUE}, {Integer.MIN_VALUE + 1, Integer.MIN_VALUE}};
        for (int[] pair : pairs) {
            for (int greater = 0; greater < 2; greater++) {
                FrankDesk x = new FrankDesk(77);
                int[] memory = Inside.memory(x);
                Desk.powerOff(x);
                System.arraycopy(memory, 0, memory, 256, 194);
                for (int sector = 0; sector < 2; sector++) {
                    memory[256 * sector] = pair[sector == greater ? 0 : 1];
                    memory[256 * sector + 1] = 50 + sector;
                    mend(memory, 256 * sector, 193);
                }
                due.is("mount() with generations " + pair[0] + " and " + pair[1], x.mount(), 50 + greater);
            }
        }
    }

    /**
     * A failed erase can leave a right mark: the words that became all ones must only weigh nothing
     * together. The generation is all ones then, which is less than any other, with its sign.
     */
    private static void failedEraseWithARightMark(Due due) {
        due.of("the greatest generation (with sign): all ones is less than others");
        boolean seen = false;
        for (int day = 2000; day < 2100 && !seen; day++) {
            FrankDesk x = new FrankDesk(77);
            for (int i = 0; i < 17 * 12; i++) {
                x.inspect(i < 3 ? 1000 : day);
            }
            int mask = maskWithRightMark(Desk.words(x, 1, 0, 194));
            if (mask == 0) {
                continue;
            }
            seen = true;
            x.cut(0, mask);
            due.is("the erase fails", x.inspect(3000), -7);
            due.is("the generation is gone", x.word(1, 0), Desk.ALL_ONES);
            due.is("the mark is right", x.word(1, 193), Desk.mark(Desk.words(x, 1, 0, 193)));
            due.is("mount()", x.mount(), 204);
            due.is("the day", x.book(8), day);
            due.is("inspect(3000)", x.inspect(3000), 1);
            due.is("the generation", x.word(1, 0), 18);
        }
        due.holds("such a mask was found", seen);
    }

    private static void mend(int[] memory, int from, int count) {
        memory[from + count] = Desk.mark(Arrays.copyOfRange(memory, from, from + count));
    }

    private static void booksOfTheMemoryAlone(Due due) {
        due.of("its books, and what its records make of them");
        FrankDesk x = Desk.filled(1000);
        Desk.powerOff(x);
        int[] memory = Inside.memory(x);
        for (int i = 2; i < 193; i++) {
            memory[i] = i;
        }
        mend(memory, 0, 193);
        due.is("mount()", x.mount(), 1);
        due.is("ascending", x.book(0), 2 + (3L << 32));
        due.is("descending", x.book(1), 4 + (5L << 32) + 1000);
        due.is("loaded", x.book(2), 6 + (7L << 32) + 1000);
        due.is("claimed", x.book(3), 8 + (9L << 32));
        long[] singles = {10, 11, 13, 13, 14, 15};
        for (int i = 0; i < singles.length; i++) {
            due.is("book(" + (4 + i) + ")", x.book(4 + i), singles[i]);
        }
        due.is("uncertain()", x.uncertain(), 1);
        due.is("pieces of department 15", x.counter(15, 0), 62);
        due.is("cents of department 15", x.counter(15, 1), 63 + (64L << 32));
        // Place p is of day 65 + 4 p now, which belongs there for p = 21 alone.
        due.is("pieces of day 149", x.dayTotal(149, 0), 150);
        due.is("cents of day 149", x.dayTotal(149, 1), 151 + (152L << 32));
        due.is("pieces of day 65, in another place", x.dayTotal(65, 0), 0);
    }

    /** Every sector in turn is the newest one, among others with right and wrong marks. */
    private static void greatestGeneration(Due due) {
        due.of("of the sectors with a right mark the one with the greatest generation is in use");
        for (int sector = 0; sector < 16; sector++) {
            FrankDesk x = new FrankDesk(77);
            int[] memory = Inside.memory(x);
            Desk.powerOff(x);
            for (int other = 0; other < 16; other++) {
                int at = 256 * other;
                System.arraycopy(memory, 0, memory, at, 194);
                memory[at] = other == sector ? 100 : (other * 7 + sector) % 16 - 8;
                memory[at + 1] = 1000 + other;
                memory[at + 14] = 2000 + other;
                mend(memory, at, 193);
            }
            int wrong = 256 * ((sector + 5) % 16);
            memory[wrong] = 101;
            due.is("mount() with sector " + sector, x.mount(), 1000 + sector);
            due.is("its day", x.book(8), 2000 + sector);
            due.is("inspect", x.inspect(3000), 1);
            Desk.record(due, x, sector, 0, 1001 + sector, 6, 3000, 0);
            for (int i = 0; i < 194; i++) {
                oneWordBent(due, x, memory, 256 * sector + i, 1000 + sector);
            }
        }
    }

    /** No word of a sector may be other than its mark says. */
    private static void oneWordBent(Due due, FrankDesk x, int[] memory, int at, int number) {
        Desk.powerOff(x);
        memory[at] ^= 1 << 20;
        due.holds("mount() with word " + at + " bent", x.mount() < number || x.book(8) < 3000);
        Desk.powerOff(x);
        memory[at] ^= 1 << 20;
        due.is("mount() with it as it was", x.mount(), number + 1);
    }

    private static void again(Due due) {
        due.of("Power is there: again and again");
        FrankDesk x = Desk.filled(1000);
        for (int i = 0; i < 40; i++) {
            x.cut(i % 12, -1);
            x.frank(1, 1, 1);
            x.frank(1, 1, 1);
            int last = x.mount();
            due.is("mount() once more", x.mount(), last);
            due.is("sound()", x.sound(), 1);
            x.settle(true);
        }
        due.is("printed and booked", x.book(4), x.printed(0));
    }

    private static void brokenRecords(Due due) {
        due.of("from the first one on, as long as each has the next number and a right mark");
        for (int broken = 0; broken < 12; broken++) {
            for (int word = 0; word < 5; word++) {
                FrankDesk x = new FrankDesk(77);
                for (int i = 0; i < 12; i++) {
                    x.inspect(1001 + i);
                }
                x.cut(0, 0);
                x.inspect(2000);
                int[] memory = Inside.memory(x);
                int at = 194 + 5 * broken;
                memory[at + word]++;
                if (word == 0) {
                    mend(memory, at, 4);
                }
                due.is("mount() with word " + word + " of record " + broken, x.mount(), broken);
                due.is("the day", x.book(8), 1000 + broken);
                due.is("the place is not all ones", x.inspect(3000), 1);
                Desk.record(due, x, 1, 0, broken + 1, 6, 3000, 0);
            }
        }
    }

    /** Words i modulo 32 = 0 become all ones, 1 (the mark's) stay; the others are to be found, half by half. */
    private static int maskWithRightMark(int[] words) {
        int[] weights = new int[32];
        int power = 1;
        for (int i = 192; i >= 0; i--) {
            weights[i % 32] += (-1 - words[i]) * power;
            power *= 31;
        }
        Map<Integer, Integer> lower = new HashMap<>();
        for (int half = 0; half < 1 << 15; half++) {
            lower.put(weigh(weights, 2, half), half);
        }
        for (int half = 0; half < 1 << 15; half++) {
            Integer other = lower.get(-weights[0] - weigh(weights, 17, half));
            if (other != null) {
                int erased = 1 | other << 2 | half << 17;
                return ~erased;
            }
        }
        return 0;
    }

    private static int weigh(int[] weights, int from, int half) {
        int sum = 0;
        for (int i = 0; i < 15; i++) {
            sum += (half >>> i & 1) * weights[from + i];
        }
        return sum;
    }
}
