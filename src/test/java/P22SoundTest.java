import java.lang.reflect.Field;

/** Promise 22: sound. No run of calls makes a desk unsound, so some of its state is bent by hand here. */
public final class P22SoundTest {
    public static void main(String[] args) throws ReflectiveOperationException {
        Due due = new Due();
        soundAlways(due);
        withoutPower(due);
        for (int register : new int[] {0, 1, 2, 3, 4, 5, 6, 7, 8}) {
            bentBooks(due, register);
        }
        for (int department = 0; department < 16; department++) {
            bentBooks(due, 15 + 3 * department);
            bentBooks(due, 16 + 3 * department);
            bentBooks(due, 17 + 3 * department);
        }
        bentPrinter(due, "piecesOut");
        bentPrinter(due, "centsOut");
        bentWear(due);
        due.end();
    }

    private static FrankDesk used() {
        FrankDesk x = Desk.filled(999_999_999);
        Desk.frankMany(x, 100, 20);
        x.claimBack(3, 7);
        return x;
    }

    private static void soundAlways(Due due) {
        FrankDesk x = used();
        due.is("sound()", x.sound(), 1);
        for (int left = 0; left < 30; left++) {
            x.cut(left * 7, left * 0x01234567);
            x.frank(left % 16, 1 + left, left);
            x.frank(left % 16, 1 + left, left);
            x.mount();
            due.is("sound()", x.sound(), 1);
            x.settle(left % 3 == 0);
            due.is("sound() when settled", x.sound(), 1);
        }
    }

    private static void withoutPower(Due due) {
        FrankDesk x = used();
        Desk.powerOff(x);
        due.is("sound() without power", x.sound(), -7);
        x.mount();
        due.is("sound() with power", x.sound(), 1);
    }

    private static void bentBooks(Due due, int i) throws ReflectiveOperationException {
        FrankDesk x = used();
        int[] words = (int[]) inside(inside(x, "books"), "words");
        words[i]++;
        due.is("sound() with word " + i + " of the books one more", x.sound(), 0);
        words[i]--;
        due.is("sound() with it as it was", x.sound(), 1);
    }

    private static void bentPrinter(Due due, String name) throws ReflectiveOperationException {
        FrankDesk x = used();
        Field field = open(x, name);
        long was = field.getLong(x);
        field.setLong(x, was + 1);
        due.is("sound() with one more of " + name, x.sound(), 0);
        field.setLong(x, was - 1);
        due.is("sound() with one less of " + name, x.sound(), 1);
    }

    private static void bentWear(Due due) throws ReflectiveOperationException {
        FrankDesk x = new FrankDesk(77);
        int[] erases = (int[]) inside(inside(x, "memory"), "erases");
        due.is("sound() with wear 1 apart", x.sound(), 1);
        erases[0] = 2;
        due.is("sound() with wear 2 apart", x.sound(), 0);
        x.cut(9, 0);
        due.is("a cut that is only told", x.sound(), 0);
        Desk.powerOff(x);
        x.mount();
        due.is("sound() with wear 2 apart and a cut", x.sound(), 1);
        erases[0] = 0;
        erases[15] = 3;
        due.is("sound() with wear 3 apart and a cut", x.sound(), 0);
    }

    private static Object inside(Object x, String name) throws ReflectiveOperationException {
        return open(x, name).get(x);
    }

    private static Field open(Object x, String name) throws ReflectiveOperationException {
        Field field = x.getClass().getDeclaredField(name);
        field.setAccessible(true);
        return field;
    }
}
