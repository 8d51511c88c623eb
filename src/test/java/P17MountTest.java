import java.util.HashMap;
import java.util.Map;

/** Promise 17: mount, and how records go from sector to sector. */
public final class P17MountTest {
    public static void main(String[] args) {
        Due due = new Due();
        numbers(due);
        fullSector(due);
        dirtyPlace(due);
        everyCutOfANewSector(due);
        withPower(due);
        generationWithSign(due);
        due.end();
    }

    private static void numbers(Due due) {
        FrankDesk x = new FrankDesk(77);
        for (int i = 0; i < 230; i++) {
            due.is("mount() of " + i + " records", x.mount(), i);
            due.is("inspect", x.inspect(1000 + i), 1);
        }
        Desk.powerOff(x);
        due.is("mount() behind a cut", x.mount(), 230);
        due.is("the day", x.book(8), 1229);
    }

    private static void fullSector(Due due) {
        FrankDesk x = new FrankDesk(77);
        for (int i = 0; i < 12; i++) {
            x.inspect(1000 + i);
        }
        due.is("twelve fit", x.wear(1), 0);
        due.is("words behind the records", x.word(0, 254), Desk.ALL_ONES);
        x.cut(195, 0);
        due.is("an erase and 194 words, and no more", x.inspect(2000), -7);
        due.is("mount()", x.mount(), 12);
        due.is("generation", x.word(1, 0), 2);
        due.is("number", x.word(1, 1), 12);
        due.is("inspection day", x.word(1, 14), 1011);
        due.is("mark", x.word(1, 193), Desk.mark(Desk.words(x, 1, 0, 193)));
        due.is("no record yet", x.word(1, 194), Desk.ALL_ONES);
        due.is("the next one", x.inspect(2000), 1);
        due.is("no other erase", x.wear(1), 1);
        Desk.record(due, x, 1, 0, 13, 6, 2000, 0);
    }

    private static void dirtyPlace(Due due) {
        for (int left = 0; left < 5; left++) {
            FrankDesk x = new FrankDesk(77);
            x.inspect(1001);
            x.cut(left, 0);
            x.inspect(1002);
            due.is("mount()", x.mount(), 1);
            due.is("the day", x.book(8), 1001);
            due.is("inspect(1003)", x.inspect(1003), 1);
            due.is("erased", x.wear(1), left == 0 ? 0 : 1);
            Desk.record(due, x, left == 0 ? 0 : 1, left == 0 ? 1 : 0, 2, 6, 1003, 0);
            Desk.powerOff(x);
            due.is("mount()", x.mount(), 2);
            due.is("the day", x.book(8), 1003);
        }
    }

    private static void everyCutOfANewSector(Due due) {
        for (int left = 0; left <= 200; left++) {
            FrankDesk x = new FrankDesk(77);
            for (int i = 0; i < 12; i++) {
                x.inspect(1000 + i);
            }
            x.cut(left, 0x33333333);
            due.is("inspect with " + left + " left", x.inspect(2000), left == 200 ? 1 : -7);
            due.is("mount() with " + left + " left", x.mount(), left == 200 ? 13 : 12);
            due.is("the day with " + left + " left", x.book(8), left == 200 ? 2000 : 1011);
            x.cut(100_000, 0);
            due.is("inspect again", x.inspect(3000), 1);
            boolean anew = left < 195;
            due.is("wear(1) with " + left + " left", x.wear(1), anew ? 2 : 1);
            due.is("wear(2) with " + left + " left", x.wear(2), left > 195 && left < 200 ? 1 : 0);
            due.is("sound() with " + left + " left", x.sound(), 1);
        }
    }

    private static void withPower(Due due) {
        FrankDesk x = Desk.uncertainAbout(1000, 10);
        x.cut(3, 0);
        due.is("mount()", x.mount(), 2);
        due.is("mount() again", x.mount(), 2);
        due.is("uncertain()", x.uncertain(), 1);
        due.is("book(0)", x.book(0), 10);
        due.is("settle", x.settle(true), -7);
        due.is("mount() behind the cut", x.mount(), 2);
    }

    /**
     * A failed erase can leave a right mark: the words that became all ones must only weigh nothing
     * together. The generation is all ones then, which is less than any other, with its sign.
     */
    private static void generationWithSign(Due due) {
        boolean seen = false;
        for (int day = 2000; day < 2100 && !seen; day++) {
            FrankDesk x = new FrankDesk(77);
            for (int i = 0; i < 17 * 12; i++) {
                x.inspect(i < 3 ? 1000 : day);
            }
            int mask = maskWithRightMark(Desk.words(x, 1, 0, 194));
            if (mask == 0) {
                continue;
            }
            seen = true;
            x.cut(0, mask);
            due.is("the erase fails", x.inspect(3000), -7);
            due.is("the generation is gone", x.word(1, 0), Desk.ALL_ONES);
            due.is("the mark is right", x.word(1, 193), Desk.mark(Desk.words(x, 1, 0, 193)));
            due.is("mount()", x.mount(), 204);
            due.is("the day", x.book(8), day);
            due.is("inspect(3000)", x.inspect(3000), 1);
            due.is("the generation", x.word(1, 0), 18);
        }
        due.holds("such a mask was found", seen);
    }

    /** Words i modulo 32 = 0 become all ones, 1 (the mark's) stay; the others are to be found, half by half. */
    private static int maskWithRightMark(int[] words) {
        int[] weights = new int[32];
        int power = 1;
        for (int i = 192; i >= 0; i--) {
            weights[i % 32] += (-1 - words[i]) * power;
            power *= 31;
        }
        Map<Integer, Integer> lower = new HashMap<>();
        for (int half = 0; half < 1 << 15; half++) {
            lower.put(weigh(weights, 2, half), half);
        }
        for (int half = 0; half < 1 << 15; half++) {
            Integer other = lower.get(-weights[0] - weigh(weights, 17, half));
            if (other != null) {
                int erased = 1 | other << 2 | half << 17;
                return ~erased;
            }
        }
        return 0;
    }

    private static int weigh(int[] weights, int from, int half) {
        int sum = 0;
        for (int i = 0; i < 15; i++) {
            sum += (half >>> i & 1) * weights[from + i];
        }
        return sum;
    }
}
