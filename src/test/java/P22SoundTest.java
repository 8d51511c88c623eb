import java.util.Arrays;

/** Promise 22: sound. No run of calls makes a desk unsound, so some of its state is bent by hand here. */
public final class P22SoundTest {
    public static void main(String[] args) {
        Due due = new Due();
        soundAlways(due);
        withoutPower(due);
        for (int word = 0; word <= 8; word++) {
            bentBooks(due, word);
        }
        for (int word = 15; word < 63; word++) {
            bentBooks(due, word);
        }
        bentPrinter(due, "piecesOut");
        bentPrinter(due, "centsOut");
        for (int sector = 0; sector < 16; sector++) {
            bentWear(due, sector);
        }
        due.end();
    }

    private static FrankDesk used() {
        FrankDesk x = Desk.filled(999_999_999);
        Desk.frankMany(x, 100, 20);
        x.claimBack(3, 7);
        return x;
    }

    private static void soundAlways(Due due) {
        FrankDesk x = used();
        due.is("sound()", x.sound(), 1);
        for (int left = 0; left < 30; left++) {
            x.cut(left * 7, left * 0x01234567);
            x.frank(left % 16, 1 + left, left);
            x.frank(left % 16, 1 + left, left);
            x.mount();
            due.is("sound()", x.sound(), 1);
            x.settle(left % 3 == 0);
            due.is("sound() when settled", x.sound(), 1);
        }
    }

    private static void withoutPower(Due due) {
        FrankDesk x = used();
        Desk.powerOff(x);
        due.is("sound() without power", x.sound(), -7);
        x.mount();
        due.is("sound() with power", x.sound(), 1);
    }

    private static void bentBooks(Due due, int i) {
        FrankDesk x = used();
        Inside.books(x)[i]++;
        due.is("sound() with word " + i + " of the books one more", x.sound(), 0);
        Inside.books(x)[i]--;
        due.is("sound() with it as it was", x.sound(), 1);
    }

    private static void bentPrinter(Due due, String name) {
        FrankDesk x = used();
        Inside.add(x, name, 1);
        due.is("sound() with one more of " + name, x.sound(), 0);
        Inside.add(x, name, -2);
        due.is("sound() with one less of " + name, x.sound(), 1);
    }

    private static void bentWear(Due due, int sector) {
        FrankDesk x = new FrankDesk(77);
        int[] erases = Inside.erases(x);
        Arrays.fill(erases, 5);
        erases[sector] = 6;
        due.is("sound() with wear 1 apart", x.sound(), 1);
        erases[sector] = 7;
        due.is("sound() with wear 2 apart", x.sound(), 0);
        erases[sector] = 3;
        due.is("sound() with wear 2 apart, the other way", x.sound(), 0);
        x.cut(9, 0);
        due.is("a cut that is only told", x.sound(), 0);
        Desk.powerOff(x);
        x.mount();
        due.is("sound() with wear 2 apart and a cut", x.sound(), 1);
        erases[sector] = 8;
        due.is("sound() with wear 3 apart and a cut", x.sound(), 0);
    }
}
