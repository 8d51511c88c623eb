/** Promise 21: word. */
public final class P21WordTest {
    public static void main(String[] args) {
        Due due = new Due();
        FrankDesk x = Desk.filled(1000);
        x.frank(3, 100, 40);
        due.is("word(0, 0)", x.word(0, 0), 1);
        due.is("word(0, 194)", x.word(0, 194), 1);
        due.is("word(0, 201)", x.word(0, 201), 100);
        due.is("word(0, 255)", x.word(0, 255), -1);
        due.is("word(15, 255)", x.word(15, 255), -1);
        due.is("word(16, 0)", x.word(16, 0), -1);
        due.is("word(-1, 0)", x.word(-1, 0), -1);
        due.is("word(0, 256)", x.word(0, 256), -1);
        due.is("word(0, -1)", x.word(0, -1), -1);
        // Neither may reach into the neighbour, whose word 0 is no -1.
        Desk.frankMany(x, 10, 1);
        due.is("word(1, 0)", x.word(1, 0), 2);
        due.is("word(0, 256) beside a used sector", x.word(0, 256), -1);
        due.is("word(1, -256) beside a used sector", x.word(1, -256), -1);
        due.is("word(2, -62) beside a used sector", x.word(2, -62), -1);
        for (int odd : Desk.ODD_NUMBERS) {
            due.is("word(" + odd + ", 0)", x.word(odd, 0), -1);
            due.is("word(0, " + odd + ")", x.word(0, odd), -1);
            due.is("word(" + odd + ", " + odd + ")", x.word(odd, odd), -1);
        }
        partlyWritten(due);
        due.end();
    }

    private static void partlyWritten(Due due) {
        int[] words = {2, 1, 100, 3 + 16 * 40, 1521144053};
        for (int left = 0; left < 5; left++) {
            FrankDesk x = Desk.filled(1000);
            x.cut(left, 0);
            x.frank(3, 100, 40);
            for (int i = 0; i < 5; i++) {
                due.is("word " + i + " with " + left + " left, without power", x.word(0, 199 + i), i < left ? words[i] : -1);
            }
            due.is("word(16, 0) without power", x.word(16, 0), -1);
        }
    }
}
