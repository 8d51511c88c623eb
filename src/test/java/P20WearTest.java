/** Promise 20: wear. */
public final class P20WearTest {
    public static void main(String[] args) {
        Due due = new Due();
        roundAndRound(due);
        failedOnesCount(due);
        due.end();
    }

    private static void roundAndRound(Due due) {
        FrankDesk x = new FrankDesk(77);
        int[] wear = new int[16];
        wear[0] = 1;
        for (int i = 0; i < 480; i++) {
            x.inspect(1000);
            if (i > 0 && i % 12 == 0) {
                wear[i / 12 % 16]++;
            }
            if (i % 12 < 2) {
                for (int sector = 0; sector < 16; sector++) {
                    due.is("wear(" + sector + ") of " + (i + 1) + " records", x.wear(sector), wear[sector]);
                }
            }
        }
        due.is("the generation", x.word(39 % 16, 0), 40);
        due.is("wear(16)", x.wear(16), -1);
        due.is("wear(-1)", x.wear(-1), -1);
        for (int odd : Desk.ODD_NUMBERS) {
            due.is("wear(" + odd + ")", x.wear(odd), -1);
        }
    }

    private static void failedOnesCount(Due due) {
        FrankDesk x = new FrankDesk(77);
        for (int i = 0; i < 12; i++) {
            x.inspect(1000);
        }
        for (int i = 1; i <= 10; i++) {
            x.cut(0, i % 2 == 0 ? -1 : 0);
            x.inspect(1000);
            due.is("wear(1) without power", x.wear(1), i);
            due.is("wear(16) without power", x.wear(16), -1);
            x.inspect(1000);
            due.is("nothing is erased without power", x.wear(1), i);
            x.mount();
            due.is("mount() erases nothing", x.wear(1), i);
        }
        x.inspect(1000);
        due.is("wear(1)", x.wear(1), 11);
        due.is("wear(2)", x.wear(2), 0);
        due.is("sound()", x.sound(), 1);
    }
}
