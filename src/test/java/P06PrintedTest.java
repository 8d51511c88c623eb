/** Promise 6: printed. */
public final class P06PrintedTest {
    public static void main(String[] args) {
        Due due = new Due();
        FrankDesk x = Desk.filled(999_999_999);
        Desk.frankMany(x, 20, 30);
        due.is("printed(0)", x.printed(0), 20);
        due.is("printed(1)", x.printed(1), 600);
        due.is("printed(2)", x.printed(2), -1);
        due.is("printed(-1)", x.printed(-1), -1);
        for (int odd : Desk.ODD_NUMBERS) {
            due.is("printed(" + odd + ")", x.printed(odd), -1);
        }
        Desk.powerOff(x);
        due.is("printed(0) without power", x.printed(0), 20);
        due.is("printed(1) without power", x.printed(1), 600);
        due.is("printed(2) without power", x.printed(2), -1);
        x.mount();
        due.is("printed(0) behind a cut", x.printed(0), 20);
        moreThan32Bits(due);
        uncertainPiece(due);
        due.end();
    }

    private static void moreThan32Bits(Due due) {
        FrankDesk x = new FrankDesk(77);
        for (int i = 0; i < 6; i++) {
            Desk.fill(x, 999_999_999);
        }
        Desk.frankMany(x, 6, 999_999_999);
        due.is("printed(1)", x.printed(1), 5_999_999_994L);
    }

    /** What the clerk says does not change what came out. */
    private static void uncertainPiece(Due due) {
        FrankDesk x = Desk.uncertainAbout(1000, 10);
        due.is("printed(0) of an uncertain piece", x.printed(0), 1);
        x.settle(false);
        due.is("printed(0) when the clerk denies it", x.printed(0), 1);
        due.is("printed(1) when the clerk denies it", x.printed(1), 10);
    }
}
