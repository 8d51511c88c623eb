/** Promise 18: uncertain. */
public final class P18UncertainTest {
    public static void main(String[] args) {
        Due due = new Due();
        FrankDesk x = Desk.filled(1000);
        due.is("uncertain() at first", x.uncertain(), 0);
        x.frank(0, 10, 1);
        due.is("uncertain() behind a piece", x.uncertain(), 0);
        for (int left = 5; left < 10; left++) {
            x.cut(left, 0);
            due.is("frank", x.frank(0, 10, 1), -7);
            due.is("uncertain() without power", x.uncertain(), -7);
            x.mount();
            due.is("uncertain() behind a cut", x.uncertain(), 1);
            Desk.powerOff(x);
            x.mount();
            due.is("uncertain() behind one more", x.uncertain(), 1);
            x.settle(left % 2 == 0);
            due.is("uncertain() when settled", x.uncertain(), 0);
        }
        overTheEndOfASector(due);
        due.end();
    }

    /** Record 1 is the twelfth, so that record 2 needs a sector whose books say what is uncertain. */
    private static void overTheEndOfASector(Due due) {
        for (int left = 5; left <= 205; left++) {
            FrankDesk x = Desk.filled(1000);
            Desk.frankMany(x, 5, 10);
            x.cut(left, 0x0F0F0F0F);
            due.is("frank with " + left + " left", x.frank(3, 77, 6), left == 205 ? 1 : -7);
            due.is("printed(1)", x.printed(1), 127);
            x.mount();
            due.is("uncertain() with " + left + " left", x.uncertain(), left == 205 ? 0 : 1);
            if (left >= 200 && left < 205) {
                due.is("the books of sector 1", x.word(1, 16), 77);
            }
            due.is("ascending", x.book(0), 127);
            due.is("settle", x.settle(false), left == 205 ? 0 : 1);
            due.is("claimed", x.book(3), left == 205 ? 0 : 77);
            due.is("sound()", x.sound(), 1);
        }
    }
}
