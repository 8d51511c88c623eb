/** Promise 9: claimBack. */
public final class P09ClaimBackTest {
    public static void main(String[] args) {
        Due due = new Due();
        record(due);
        noPiece(due);
        hundreds(due);
        uncertainPieceCounts(due);
        cents(due);
        aboveAscending(due);
        days(due);
        lockedOrUncertain(due);
        everyCutInARecord(due);
        everyCutInASector(due);
        withoutPower(due);
        due.end();
    }

    /** A hundred pieces of 20 cents; the next record is the tenth of sector 0, in the second lap. */
    private static FrankDesk ready() {
        FrankDesk x = Desk.filled(5000);
        Desk.frankMany(x, 100, 20);
        return x;
    }

    private static void record(Due due) {
        due.of("Record 5. YES");
        FrankDesk x = ready();
        due.is("claimBack(5, 10)", x.claimBack(5, 10), 1);
        Desk.record(due, x, 0, 9, 202, 5, 10, 5);
        long[] books = {2000, 3010, 5000, 10, 100, 1};
        for (int what = 0; what < books.length; what++) {
            due.is("book(" + what + ")", x.book(what), books[what]);
        }
        due.is("sound()", x.sound(), 1);
    }

    private static void refused(Due due, FrankDesk x, int day, int cents) {
        int records = x.mount();
        long claims = x.book(5);
        long claimed = x.book(3);
        String call = "claimBack(" + day + ", " + cents + ") of " + x.book(4) + " pieces";
        due.is(call, x.claimBack(day, cents), 0);
        due.is("records behind " + call, x.mount(), records);
        due.is("claims behind " + call, x.book(5), claims);
        due.is("claimed behind " + call, x.book(3), claimed);
    }

    private static void noPiece(Due due) {
        due.of("NO: claims and one more are above pieces by 100: no piece yet");
        refused(due, new FrankDesk(77), 5, 1);
        refused(due, Desk.filled(1000), 5, 1);
    }

    private static void hundreds(Due due) {
        due.of("NO: claims and one more are above pieces by 100, cut off");
        FrankDesk x = Desk.filled(1000);
        for (int piece = 1; piece <= 304; piece++) {
            x.frank(piece % 16, 1, 1);
            if (piece % 100 > 97 || piece % 100 == 1 || piece == 50) {
                refused(due, x, 5, 1);
            }
            if (piece % 100 == 0) {
                due.is("claimBack of " + piece + " pieces", x.claimBack(5, 1), 1);
                due.is("claims", x.book(5), piece / 100);
                refused(due, x, 5, 1);
            }
        }
        severalAtOnce(due);
    }

    private static void severalAtOnce(Due due) {
        FrankDesk x = Desk.filled(1000);
        for (int piece = 1; piece <= 350; piece++) {
            x.frank(piece % 16, 1, 1);
        }
        for (int claim = 1; claim <= 3; claim++) {
            due.is("claim " + claim + " of 350 pieces", x.claimBack(5, 350), 1);
        }
        refused(due, x, 5, 1);
        due.is("claimed", x.book(3), 1050);
        Desk.cycle(x);
        refused(due, x, 5, 1);
        due.is("claims behind a cut", x.book(5), 3);
    }

    private static void uncertainPieceCounts(Due due) {
        due.of("above pieces by 100: the hundredth one is uncertain");
        FrankDesk x = Desk.filled(5000);
        Desk.frankMany(x, 99, 20);
        refused(due, x, 5, 1);
        x.cut(5, 0);
        x.frank(0, 20, 1);
        x.mount();
        due.is("uncertain()", x.uncertain(), 1);
        due.is("claimBack(5, 1)", x.claimBack(5, 1), 1);
        due.is("uncertain() then", x.uncertain(), 1);
    }

    private static void cents(Due due) {
        due.of("NO: cents are not 1 .. 999,999,999");
        for (int cents : new int[] {1, 2, 999_999_998, 999_999_999}) {
            FrankDesk x = muchFranked();
            due.is("claimBack of " + cents, x.claimBack(0, cents), 1);
            due.is("claimed", x.book(3), cents);
        }
        FrankDesk x = muchFranked();
        for (int cents : new int[] {0, -1, Integer.MIN_VALUE, 1_000_000_000, 1_000_000_001, Integer.MAX_VALUE}) {
            refused(due, x, 5, cents);
        }
    }

    private static FrankDesk muchFranked() {
        FrankDesk x = ready();
        Desk.loadUpTo(x, 2_999_999_997L);
        x.frank(0, 999_999_999, 1);
        x.frank(0, 999_999_999, 1);
        return x;
    }

    private static void aboveAscending(Due due) {
        due.of("NO: cents are above ascending");
        FrankDesk x = ready();
        refused(due, x, 5, 2001);
        refused(due, x, 5, 999_999_999);
        due.is("one less", ready().claimBack(5, 1999), 1);
        due.is("all of ascending", x.claimBack(5, 2000), 1);
        due.is("ascending is as it was", x.book(0), 2000);
        Desk.frankMany(x, 100, 1);
        refused(due, x, 5, 2101);
        due.is("all of ascending again", x.claimBack(5, 2100), 1);
    }

    private static void days(Due due) {
        due.of("NO: no such day (0 .. 100,000)");
        for (int day : new int[] {0, 1, 99_999, 100_000}) {
            FrankDesk x = ready();
            due.is("claimBack on day " + day, x.claimBack(day, 10), 1);
            Desk.record(due, x, 0, 9, 202, 5, 10, day);
        }
        FrankDesk x = ready();
        refused(due, x, -1, 10);
        refused(due, x, 100_001, 10);
        for (int odd : Desk.ODD_NUMBERS) {
            refused(due, x, odd, 10);
        }
    }

    private static void lockedOrUncertain(Due due) {
        due.of("NO, for no other reason: not when it is locked, nor by the inspection day");
        FrankDesk x = ready();
        x.lock();
        due.is("claimBack when locked, behind the inspection day", x.claimBack(1001, 1), 1);
    }

    private static void everyCutInARecord(Due due) {
        due.of("CUT: power failed in it");
        for (int left = 0; left <= 5; left++) {
            cutIn(due, 0, left, 5);
        }
    }

    private static void everyCutInASector(Due due) {
        due.of("CUT: power failed in it, where it needs a new sector");
        for (int left = 0; left <= 200; left++) {
            cutIn(due, 3, left, 200);
        }
    }

    private static void cutIn(Due due, int records, int left, int needed) {
        FrankDesk x = ready();
        Desk.writeMany(x, records);
        x.cut(left, 0x00FF00FF);
        boolean whole = left >= needed;
        due.is("claimBack with " + left + " left", x.claimBack(5, 10), whole ? 1 : FrankDesk.CUT);
        due.is("mount()", x.mount(), 201 + records + (whole ? 1 : 0));
        due.is("claims", x.book(5), whole ? 1 : 0);
        due.is("claimed", x.book(3), whole ? 10 : 0);
        due.is("descending", x.book(1), whole ? 3010 : 3000);
        x.cut(100_000, 0);
        due.is("claimBack then", x.claimBack(5, 10), whole ? 0 : 1);
    }

    private static void withoutPower(Due due) {
        due.of("CUT (no power)");
        FrankDesk x = ready();
        Desk.powerOff(x);
        due.is("claimBack", x.claimBack(5, 10), FrankDesk.CUT);
        due.is("wrong claimBack", x.claimBack(-5, 0), FrankDesk.CUT);
        x.mount();
        due.is("claims", x.book(5), 0);
    }
}
