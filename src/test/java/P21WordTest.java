/** Promise 21: word. */
public final class P21WordTest {
    public static void main(String[] args) {
        Due due = new Due();
        words(due);
        noSuchSector(due);
        noSuchWord(due);
        besideUsedSectors(due);
        mayBeOneToo(due);
        withoutPower(due);
        due.end();
    }

    private static void words(Due due) {
        due.of("A word of the memory");
        FrankDesk x = Desk.filled(1000);
        x.frank(3, 100, 40);
        due.is("word(0, 0)", x.word(0, 0), 1);
        due.is("word(0, 14)", x.word(0, 14), 1000);
        due.is("word(0, 193)", x.word(0, 193), -816_160_190);
        due.is("word(0, 194)", x.word(0, 194), 1);
        due.is("word(0, 201)", x.word(0, 201), 100);
        due.is("word(0, 202)", x.word(0, 202), 3 + 16 * 40);
    }

    private static void noSuchSector(Due due) {
        due.of("BAD: none such (sector)");
        FrankDesk x = Desk.filled(1000);
        for (int sector : new int[] {-1, -2, 16, 17}) {
            due.is("word(" + sector + ", 0)", x.word(sector, 0), -1);
            due.is("word(" + sector + ", 255)", x.word(sector, 255), -1);
        }
        for (int odd : Desk.ODD_NUMBERS) {
            due.is("word(" + odd + ", 0)", x.word(odd, 0), -1);
            due.is("word(" + odd + ", " + odd + ")", x.word(odd, odd), -1);
        }
    }

    private static void noSuchWord(Due due) {
        due.of("BAD: none such (word)");
        FrankDesk x = Desk.filled(1000);
        for (int i : new int[] {-1, -2, 256, 257, 4095, 4096}) {
            due.is("word(0, " + i + ")", x.word(0, i), -1);
            due.is("word(15, " + i + ")", x.word(15, i), -1);
        }
        for (int odd : Desk.ODD_NUMBERS) {
            due.is("word(0, " + odd + ")", x.word(0, odd), -1);
        }
    }

    /** Both neighbours are in use here, so that their words are not -1. */
    private static void besideUsedSectors(Due due) {
        due.of("BAD: none such, and no word of another sector");
        FrankDesk x = new FrankDesk(77);
        Desk.writeMany(x, 16 * 12);
        for (int sector = 0; sector < 16; sector++) {
            due.is("word(" + sector + ", 256)", x.word(sector, 256), -1);
            due.is("word(" + sector + ", 257)", x.word(sector, 257), -1);
            due.is("word(" + sector + ", -256)", x.word(sector, -256), -1);
            due.is("word(" + sector + ", -3)", x.word(sector, -3), -1);
        }
        due.is("word(-1, 256)", x.word(-1, 256), -1);
        due.is("word(16, -256)", x.word(16, -256), -1);
    }

    private static void mayBeOneToo(Due due) {
        due.of("BAD (which may be one, too)");
        FrankDesk x = new FrankDesk(77);
        due.is("word(0, 255)", x.word(0, 255), -1);
        due.is("word(15, 255)", x.word(15, 255), -1);
        due.is("word(15, 0)", x.word(15, 0), -1);
        due.is("a place of no day", x.word(0, 65), -1);
    }

    private static void withoutPower(Due due) {
        due.of("Also without power");
        int[] words = {2, 1, 100, 3 + 16 * 40, 1_521_144_053};
        for (int left = 0; left < 5; left++) {
            FrankDesk x = Desk.filled(1000);
            x.cut(left, 0);
            x.frank(3, 100, 40);
            for (int i = 0; i < 5; i++) {
                due.is("word " + i + " with " + left + " left", x.word(0, 199 + i), i < left ? words[i] : Desk.ALL_ONES);
            }
            due.is("word(0, 0)", x.word(0, 0), 1);
            due.is("word(16, 0)", x.word(16, 0), -1);
            due.is("word(0, 256)", x.word(0, 256), -1);
            due.is("it brings no power", x.book(0), FrankDesk.CUT);
        }
    }
}
