/** Promise 10: book. */
public final class P10BookTest {
    public static void main(String[] args) {
        Due due = new Due();
        FrankDesk x = Desk.filled(999_999_999);
        Desk.frankMany(x, 100, 20);
        x.claimBack(3, 7);
        Desk.fill(x, 1);
        x.inspect(2345);
        x.loadTable(67);
        x.lock();
        long[] books = {2000, 999_998_007, 1_000_000_000, 7, 100, 1, 2, 1, 2345, 67};
        for (int what = 0; what < books.length; what++) {
            due.is("book(" + what + ")", x.book(what), books[what]);
        }
        due.is("book(10)", x.book(10), -1);
        due.is("book(-1)", x.book(-1), -1);
        for (int odd : Desk.ODD_NUMBERS) {
            due.is("book(" + odd + ")", x.book(odd), -1);
        }
        Desk.powerOff(x);
        for (int what = -1; what <= 10; what++) {
            due.is("book(" + what + ") without power", x.book(what), -7);
        }
        x.mount();
        for (int what = 0; what < books.length; what++) {
            due.is("book(" + what + ") behind a cut", x.book(what), books[what]);
        }
        inTheMemory(due);
        due.end();
    }

    /** The twelfth record is the last of sector 0: the thirteenth brings the books to sector 1. */
    private static void inTheMemory(Due due) {
        FrankDesk x = new FrankDesk(77);
        for (int i = 0; i < 6; i++) {
            Desk.fill(x, 999_999_999);
        }
        x.frank(15, 999_999_999, 31);
        x.inspect(2345);
        x.loadTable(67);
        x.lock();
        due.is("records", x.mount(), 11);
        x.inspect(2346);
        due.is("sector 1 is not in use", x.wear(1), 0);
        x.inspect(2347);
        int[] first = {2, 12, 999_999_999, 0, (int) 4_999_999_995L, 1, (int) 5_999_999_994L, 1, 0, 0, 1, 0, 6, 1, 2346, 67, 0};
        for (int i = 0; i < first.length; i++) {
            due.is("word(1, " + i + ")", x.word(1, i), first[i]);
        }
        int[] department = {1, 999_999_999, 0};
        int[] day = {31, 1, 999_999_999, 0};
        for (int i = 0; i < 3; i++) {
            due.is("word of department 15", x.word(1, 62 + i), department[i]);
        }
        for (int i = 0; i < 4; i++) {
            due.is("word of day 31", x.word(1, 189 + i), day[i]);
        }
        due.is("the mark", x.word(1, 193), Desk.mark(Desk.words(x, 1, 0, 193)));
        Desk.record(due, x, 1, 0, 13, 6, 2347, 0);
    }
}
