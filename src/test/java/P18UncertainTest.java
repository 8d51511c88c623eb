/** Promise 18: uncertain. */
public final class P18UncertainTest {
    public static void main(String[] args) {
        Due due = new Due();
        none(due);
        some(due);
        ofOneCent(due);
        overTheEndOfASector(due);
        staysSo(due);
        withoutPower(due);
        due.end();
    }

    private static void none(Due due) {
        due.of("else 0");
        FrankDesk x = Desk.filled(1000);
        due.is("uncertain() at first", x.uncertain(), 0);
        x.frank(0, 10, 1);
        due.is("uncertain() behind a piece", x.uncertain(), 0);
        x.frank(0, 1000, 1);
        due.is("uncertain() behind a refused piece", x.uncertain(), 0);
        Desk.cycle(x);
        due.is("uncertain() behind a cut", x.uncertain(), 0);
        for (int left = 0; left < 5; left++) {
            FrankDesk y = Desk.filled(1000);
            y.cut(left, 0);
            y.frank(0, 10, 1);
            y.mount();
            due.is("uncertain() where record 1 was not whole, with " + left + " left", y.uncertain(), 0);
        }
    }

    private static void some(Due due) {
        due.of("1, if some piece is uncertain");
        for (int left = 5; left <= 10; left++) {
            FrankDesk x = Desk.filled(1000);
            x.cut(left, 0);
            x.frank(0, 10, 1);
            x.mount();
            due.is("uncertain() with " + left + " left", x.uncertain(), left < 10 ? 1 : 0);
            x.settle(left % 2 == 0);
            due.is("uncertain() when settled", x.uncertain(), 0);
        }
    }

    private static void ofOneCent(Due due) {
        due.of("1, if some piece is uncertain: of the least cents, and of the most");
        for (int cents : new int[] {1, 999_999_999}) {
            FrankDesk x = Desk.uncertainAbout(999_999_999, cents);
            due.is("uncertain() of " + cents, x.uncertain(), 1);
        }
    }

    /** Record 1 is the twelfth, so that record 2 needs a sector whose books say what is uncertain. */
    private static void overTheEndOfASector(Due due) {
        due.of("1, if some piece is uncertain: record 2 needs a new sector");
        for (int left = 5; left <= 205; left++) {
            FrankDesk x = Desk.filled(1000);
            Desk.frankMany(x, 5, 10);
            x.cut(left, 0x0F0F0F0F);
            due.is("frank with " + left + " left", x.frank(3, 77, 6), left == 205 ? 1 : FrankDesk.CUT);
            due.is("printed(1)", x.printed(1), 127);
            x.mount();
            due.is("uncertain() with " + left + " left", x.uncertain(), left == 205 ? 0 : 1);
            if (left >= 200 && left < 205) {
                due.is("the books of sector 1", x.word(1, 16), 77);
            }
            due.is("ascending", x.book(0), 127);
            due.is("settle", x.settle(false), left == 205 ? 0 : 1);
            due.is("claimed", x.book(3), left == 205 ? 0 : 77);
            due.is("sound()", x.sound(), 1);
        }
    }

    private static void staysSo(Due due) {
        due.of("1, if some piece is uncertain: until it is settled");
        FrankDesk x = Desk.uncertainAbout(1000, 10);
        due.is("refill", Desk.fill(x, 5), 1);
        due.is("inspect", x.inspect(1000), 1);
        due.is("loadTable", x.loadTable(1), 1);
        due.is("lock", x.lock(), 1);
        due.is("unlock", x.unlock(x.codeFor(2, 0)), 1);
        due.is("frank", x.frank(0, 1, 1), 0);
        due.is("uncertain() behind other calls", x.uncertain(), 1);
        Desk.writeMany(x, 20);
        due.is("uncertain() behind a new sector", x.uncertain(), 1);
        Desk.cycle(x);
        due.is("uncertain() behind a cut", x.uncertain(), 1);
        x.settle(false);
        due.is("uncertain() when settled", x.uncertain(), 0);
        Desk.cycle(x);
        due.is("uncertain() when settled, behind a cut", x.uncertain(), 0);
    }

    private static void withoutPower(Due due) {
        due.of("CUT (no power)");
        FrankDesk x = Desk.filled(1000);
        x.cut(5, 0);
        x.frank(0, 10, 1);
        due.is("uncertain() where a piece will be", x.uncertain(), FrankDesk.CUT);
        FrankDesk y = Desk.filled(1000);
        Desk.powerOff(y);
        due.is("uncertain() where none is", y.uncertain(), FrankDesk.CUT);
    }
}
