/** Promise 6: printed. */
public final class P06PrintedTest {
    public static void main(String[] args) {
        Due due = new Due();
        nothingYet(due);
        piecesAndCents(due);
        moreThan32Bits(due);
        anotherNumber(due);
        withoutPower(due);
        uncertainPiece(due);
        notBooked(due);
        due.end();
    }

    private static void nothingYet(Due due) {
        due.of("Of what came out of the printer: nothing yet");
        FrankDesk x = Desk.filled(1000);
        due.is("printed(0)", x.printed(0), 0);
        due.is("printed(1)", x.printed(1), 0);
    }

    private static void piecesAndCents(Due due) {
        due.of("0 how many pieces, 1 their cents together");
        FrankDesk x = Desk.filled(999_999_999);
        for (int i = 1; i <= 20; i++) {
            x.frank(0, 30, 1);
            due.is("printed(0)", x.printed(0), i);
            due.is("printed(1)", x.printed(1), 30 * i);
        }
    }

    private static void moreThan32Bits(Due due) {
        due.of("1 their cents together, by 64 bits");
        FrankDesk x = new FrankDesk(77);
        Desk.loadUpTo(x, 5_999_999_994L);
        for (int i = 1; i <= 6; i++) {
            x.frank(0, 999_999_999, 1);
            due.is("printed(1)", x.printed(1), 999_999_999L * i);
        }
    }

    private static void anotherNumber(Due due) {
        due.of("BAD: another number");
        FrankDesk x = Desk.filled(1000);
        x.frank(0, 30, 1);
        due.is("printed(2)", x.printed(2), -1);
        due.is("printed(-1)", x.printed(-1), -1);
        for (int odd : Desk.ODD_NUMBERS) {
            due.is("printed(" + odd + ")", x.printed(odd), -1);
        }
    }

    private static void withoutPower(Due due) {
        due.of("Also without power");
        FrankDesk x = Desk.filled(1000);
        Desk.frankMany(x, 20, 30);
        Desk.powerOff(x);
        due.is("printed(0)", x.printed(0), 20);
        due.is("printed(1)", x.printed(1), 600);
        due.is("printed(2)", x.printed(2), -1);
        due.is("printed(-1)", x.printed(-1), -1);
        x.mount();
        due.is("printed(0) behind the mount", x.printed(0), 20);
        due.is("printed(1) behind the mount", x.printed(1), 600);
    }

    private static void uncertainPiece(Due due) {
        due.of("Of what came out of the printer, whatever the clerk says");
        for (int said = 0; said < 2; said++) {
            FrankDesk x = Desk.uncertainAbout(1000, 10);
            due.is("printed(0) of an uncertain piece", x.printed(0), 1);
            x.settle(said == 1);
            due.is("printed(0) when it is settled", x.printed(0), 1);
            due.is("printed(1) when it is settled", x.printed(1), 10);
        }
    }

    private static void notBooked(Due due) {
        due.of("Of what came out of the printer: nothing, where record 1 was not whole");
        for (int left = 0; left < 5; left++) {
            FrankDesk x = Desk.filled(1000);
            x.cut(left, 0);
            x.frank(0, 10, 1);
            due.is("printed(0) with " + left + " left", x.printed(0), 0);
            due.is("printed(1) with " + left + " left", x.printed(1), 0);
        }
    }
}
