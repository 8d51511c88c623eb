/** Promise 1: a new object, and how its memory looks. */
public final class P01NewObjectTest {
    public static void main(String[] args) {
        Due due = new Due();
        numbers(due);
        books(due);
        memory(due);
        due.end();
    }

    private static void numbers(Due due) {
        int[][] pairs = {{1, 3027}, {0, 3027}, {-1, 3027}, {Integer.MIN_VALUE, 3027}, {2, 6054},
            {9_999_998, 993_946}, {9_999_999, 996_973}, {10_000_000, 996_973}, {Integer.MAX_VALUE, 996_973}};
        for (int[] pair : pairs) {
            due.is("codeFor(0, 0) of machine " + pair[0], new FrankDesk(pair[0]).codeFor(0, 0), pair[1]);
        }
    }

    private static void books(Due due) {
        FrankDesk x = new FrankDesk(77);
        for (int what = 0; what < 10; what++) {
            due.is("book(" + what + ") at first", x.book(what), what == 8 ? 1000 : 0);
        }
        for (int department = 0; department < 16; department++) {
            due.is("pieces of " + department, x.counter(department, 0), 0);
            due.is("cents of " + department, x.counter(department, 1), 0);
        }
        due.is("uncertain() at first", x.uncertain(), 0);
        due.is("printed(0) at first", x.printed(0), 0);
        due.is("printed(1) at first", x.printed(1), 0);
        due.is("sound() at first", x.sound(), 1);
        due.is("mount() at first", x.mount(), 0);
        for (int zone = 0; zone < 8; zone++) {
            due.is("weigh() without a rate", x.weigh(zone, 1, 0), FrankDesk.BAD);
        }
    }

    private static void memory(Due due) {
        FrankDesk x = new FrankDesk(77);
        for (int i = 0; i < 256; i++) {
            due.is("word(0, " + i + ")", x.word(0, i), firstWord(i));
        }
        for (int sector = 0; sector < 16; sector++) {
            due.is("wear(" + sector + ")", x.wear(sector), sector == 0 ? 1 : 0);
            for (int i = 0; sector > 0 && i < 256; i++) {
                due.is("word(" + sector + ", " + i + ")", x.word(sector, i), Desk.ALL_ONES);
            }
        }
    }

    private static int firstWord(int i) {
        if (i == 0) {
            return 1;
        }
        if (i == 14) {
            return 1000;
        }
        if (i == 193) {
            return -816160190;
        }
        boolean isDay = i >= 65 && i < 193 && (i - 65) % 4 == 0;
        return isDay || i > 193 ? Desk.ALL_ONES : 0;
    }
}
