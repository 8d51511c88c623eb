import java.util.Arrays;

/** Promise 22: sound. No run of calls makes a desk unsound, so some of its state is bent by hand here. */
public final class P22SoundTest {
    public static void main(String[] args) {
        Due due = new Due();
        nothingYet(due);
        soundAlways(due);
        wearFarApart(due);
        withoutPower(due);
        registers(due);
        departments(due);
        printer(due);
        wear(due);
        due.end();
    }

    private static FrankDesk used() {
        FrankDesk x = Desk.filled(999_999_999);
        Desk.frankMany(x, 100, 20);
        x.claimBack(3, 7);
        return x;
    }

    private static void nothingYet(Due due) {
        due.of("THE THEOREM, of a new object");
        due.is("sound()", new FrankDesk(77).sound(), 1);
        due.is("sound() of another", new FrankDesk(Integer.MIN_VALUE).sound(), 1);
    }

    /** Sector 1 fails to be erased again and again, so that the cuts alone let it be so worn. */
    private static void wearFarApart(Due due) {
        due.of("the sectors' wear is at most one and the number of cuts apart");
        FrankDesk x = new FrankDesk(77);
        Desk.writeMany(x, 12);
        for (int i = 1; i <= 60; i++) {
            x.cut(0, i);
            x.inspect(1000);
            x.mount();
            due.is("wear(1)", x.wear(1), i);
            due.is("sound() behind " + i + " cuts", x.sound(), 1);
        }
    }

    private static void registers(Due due) {
        due.of("Whether ascending and descending are loaded and claimed together");
        for (int word = 0; word < 8; word++) {
            bentBooks(due, word);
        }
        FrankDesk x = used();
        Inside.books(x)[4]++;
        Inside.books(x)[6]--;
        due.is("sound() with loaded one more, and claimed one less", x.sound(), 1);
    }

    private static void departments(Due due) {
        due.of("departments add up to ascending and pieces");
        bentBooks(due, 8);
        for (int word = 15; word < 63; word++) {
            bentBooks(due, word);
        }
        FrankDesk x = used();
        Inside.books(x)[0]++;
        Inside.books(x)[2]--;
        due.is("sound() with ascending one more, and descending one less", x.sound(), 0);
        FrankDesk y = used();
        Inside.books(y)[15]++;
        Inside.books(y)[60]--;
        due.is("sound() with a piece in another department", y.sound(), 1);
    }

    private static void printer(Due due) {
        due.of("no more was printed than booked");
        bentPrinter(due, "piecesOut");
        bentPrinter(due, "centsOut");
    }

    private static void wear(Due due) {
        due.of("the sectors' wear is at most one and the number of cuts apart");
        for (int sector = 0; sector < 16; sector++) {
            bentWear(due, sector);
        }
    }

    private static void soundAlways(Due due) {
        due.of("THE THEOREM, behind pieces, claims, cuts and settlements");
        FrankDesk x = used();
        due.is("sound()", x.sound(), 1);
        for (int left = 0; left < 30; left++) {
            x.cut(left * 7, left * 0x01234567);
            x.frank(left % 16, 1 + left, left);
            x.frank(left % 16, 1 + left, left);
            x.mount();
            due.is("sound()", x.sound(), 1);
            x.settle(left % 3 == 0);
            due.is("sound() when settled", x.sound(), 1);
        }
    }

    private static void withoutPower(Due due) {
        due.of("Without power NO, too: CUT");
        FrankDesk x = used();
        Desk.powerOff(x);
        due.is("sound() without power", x.sound(), -7);
        x.mount();
        due.is("sound() with power", x.sound(), 1);
    }

    private static void bentBooks(Due due, int i) {
        FrankDesk x = used();
        Inside.books(x)[i]++;
        due.is("sound() with word " + i + " of the books one more", x.sound(), 0);
        Inside.books(x)[i]--;
        due.is("sound() with it as it was", x.sound(), 1);
    }

    private static void bentPrinter(Due due, String name) {
        FrankDesk x = used();
        Inside.add(x, name, 1);
        due.is("sound() with one more of " + name, x.sound(), 0);
        Inside.add(x, name, -2);
        due.is("sound() with one less of " + name, x.sound(), 1);
    }

    private static void bentWear(Due due, int sector) {
        FrankDesk x = new FrankDesk(77);
        int[] erases = Inside.erases(x);
        Arrays.fill(erases, 5);
        erases[sector] = 6;
        due.is("sound() with wear 1 apart", x.sound(), 1);
        erases[sector] = 7;
        due.is("sound() with wear 2 apart", x.sound(), 0);
        erases[sector] = 3;
        due.is("sound() with wear 2 apart, the other way", x.sound(), 0);
        x.cut(9, 0);
        due.is("a cut that is only told", x.sound(), 0);
        Desk.powerOff(x);
        x.mount();
        due.is("sound() with wear 2 apart and a cut", x.sound(), 1);
        erases[sector] = 8;
        due.is("sound() with wear 3 apart and a cut", x.sound(), 0);
    }
}
