import java.util.function.Consumer;

/** Terms: records, kind by kind, and what they make of the books; each also when it is read back. */
public final class T07RecordsTest {
    public static void main(String[] args) {
        Due due = new Due();
        piece(due);
        pieceAtTheEnds(due);
        placeOfNone(due);
        placeOfAnEarlierDay(due);
        placeOfTheSameDay(due);
        placeOfALaterDay(due);
        placesUsedAgain(due);
        pieceIsDone(due);
        settledAsNotPrinted(due);
        settledAsPrinted(due);
        refill(due);
        claim(due);
        inspection(due);
        locking(due);
        version(due);
        due.end();
    }

    /** The books now, read back from records, read back from a new sector, and behind records of it. */
    private static void always(FrankDesk x, Consumer<FrankDesk> check) {
        check.accept(x);
        Desk.cycle(x);
        check.accept(x);
        for (int i = 0; i < 13; i++) {
            x.inspect((int) x.book(8));
        }
        check.accept(x);
        Desk.cycle(x);
        check.accept(x);
    }

    private static void books(Due due, FrankDesk x, long... books) {
        for (int what = 0; what < books.length; what++) {
            due.is("book(" + what + ")", x.book(what), books[what]);
        }
    }

    private static void day(Due due, FrankDesk x, int day, long pieces, long cents) {
        due.is("dayTotal(" + day + ", 0)", x.dayTotal(day, 0), pieces);
        due.is("dayTotal(" + day + ", 1)", x.dayTotal(day, 1), cents);
    }

    private static void piece(Due due) {
        due.of("1 a cents, b department + 16 day: ascending, and that department's cents, become a more, descending a less; "
                + "pieces, and the department's, one more");
        FrankDesk x = Desk.filled(1000);
        x.frank(3, 100, 40);
        Desk.record(due, x, 0, 1, 2, 1, 100, 3 + 16 * 40);
        always(x, y -> {
            books(due, y, 100, 900, 1000, 0, 1, 0, 1, 0, 1000, 0);
            for (int department = 0; department < 16; department++) {
                due.is("pieces of " + department, y.counter(department, 0), department == 3 ? 1 : 0);
                due.is("cents of " + department, y.counter(department, 1), department == 3 ? 100 : 0);
            }
        });
        due.of("1 a cents: uncertain is a");
        FrankDesk z = Desk.uncertainAbout(1000, 123);
        always(z, y -> due.is("uncertain()", y.uncertain(), 1));
        z.settle(false);
        due.is("claimed", z.book(3), 123);
    }

    private static void pieceAtTheEnds(Due due) {
        due.of("1 a cents, b department + 16 day: at the ends of cents, departments, and days");
        for (int cents : new int[] {1, 999_999_999}) {
            for (int department : new int[] {0, 15}) {
                for (int day : new int[] {0, 1, 31, 32, 99_999, 100_000}) {
                    FrankDesk x = Desk.filled(999_999_999);
                    x.inspect(100_000);
                    due.is("frank", x.frank(department, cents, day), 1);
                    Desk.record(due, x, 0, 2, 3, 1, cents, department + 16 * day);
                    always(x, y -> {
                        books(due, y, cents, 999_999_999 - cents);
                        due.is("pieces of the department", y.counter(department, 0), 1);
                        due.is("cents of the department", y.counter(department, 1), cents);
                        day(due, y, day, 1, cents);
                    });
                }
            }
        }
    }

    private static void placeOfNone(Due due) {
        due.of("Day d has place d modulo 32: if it is of none, it becomes that of day d");
        for (int d : new int[] {0, 1, 31, 32, 63, 1000}) {
            FrankDesk x = Desk.filled(1000);
            always(x, y -> day(due, y, d, 0, 0));
            x.frank(0, 10, d);
            always(x, y -> {
                day(due, y, d, 1, 10);
                day(due, y, d + 32, 0, 0);
                day(due, y, (d + 1) % 32, 0, 0);
            });
        }
    }

    private static void placeOfAnEarlierDay(Due due) {
        due.of("if it is of an earlier day it becomes that of day d, with nothing");
        int[][] pairs = {{0, 32}, {1, 33}, {31, 63}, {5, 997}, {968, 1000}};
        for (int[] pair : pairs) {
            FrankDesk x = Desk.filled(1000);
            x.frank(0, 10, pair[0]);
            x.frank(0, 20, pair[0]);
            x.frank(0, 7, pair[1]);
            always(x, y -> {
                day(due, y, pair[0], 0, 0);
                day(due, y, pair[1], 1, 7);
                due.is("pieces", y.book(4), 3);
                due.is("cents of the department", y.counter(0, 1), 37);
            });
        }
    }

    private static void placeOfTheSameDay(Due due) {
        due.of("if it is of day d, its pieces are one more, its cents a more");
        for (int d : new int[] {0, 31, 32, 1000}) {
            FrankDesk x = Desk.filled(1000);
            for (int i = 1; i <= 5; i++) {
                x.frank(i, i, d);
            }
            always(x, y -> day(due, y, d, 5, 15));
        }
    }

    private static void placeOfALaterDay(Due due) {
        due.of("of a later one it stays as it is");
        int[][] pairs = {{32, 0}, {33, 1}, {63, 31}, {997, 5}, {1000, 968}};
        for (int[] pair : pairs) {
            FrankDesk x = Desk.filled(1000);
            x.frank(0, 10, pair[0]);
            x.frank(4, 7, pair[1]);
            always(x, y -> {
                day(due, y, pair[0], 1, 10);
                day(due, y, pair[1], 0, 0);
                due.is("pieces", y.book(4), 2);
                due.is("ascending", y.book(0), 17);
                due.is("pieces of the department", y.counter(4, 0), 1);
                due.is("cents of the department", y.counter(4, 1), 7);
            });
        }
    }

    /** Days 8, 40 and 72 share a place. */
    private static void placesUsedAgain(Due due) {
        due.of("places of days used again by an earlier, the same and a later day, in every order");
        int[] days = {8, 40, 72};
        for (int order = 0; order < 81; order++) {
            FrankDesk x = Desk.filled(1000);
            int kept = -1;
            int pieces = 0;
            for (int i = 0, rest = order; i < 4; i++, rest /= 3) {
                int d = days[rest % 3];
                x.frank(i, 10, d);
                pieces = d > kept ? 1 : d == kept ? pieces + 1 : pieces;
                kept = Math.max(kept, d);
            }
            int last = kept;
            int count = pieces;
            always(x, y -> {
                for (int d : days) {
                    day(due, y, d, d == last ? count : 0, d == last ? 10L * count : 0);
                }
            });
        }
    }

    private static void pieceIsDone(Due due) {
        due.of("2 nothing is uncertain");
        FrankDesk x = Desk.filled(1000);
        x.frank(3, 100, 40);
        Desk.record(due, x, 0, 2, 3, 2, 0, 0);
        always(x, y -> {
            due.is("uncertain()", y.uncertain(), 0);
            books(due, y, 100, 900, 1000, 0);
        });
    }

    private static void settledAsNotPrinted(Due due) {
        due.of("3 a 0: uncertain comes to descending, and to claimed; nothing is uncertain");
        for (int cents : new int[] {1, 123, 1000}) {
            FrankDesk x = Desk.uncertainAbout(1000, cents);
            x.settle(false);
            Desk.record(due, x, 0, 2, 3, 3, 0, 0);
            always(x, y -> {
                books(due, y, cents, 1000, 1000, cents, 1, 0, 1, 0, 1000, 0);
                due.is("uncertain()", y.uncertain(), 0);
                due.is("pieces of the department", y.counter(2, 0), 1);
                day(due, y, 7, 1, cents);
            });
        }
    }

    private static void settledAsPrinted(Due due) {
        due.of("3 a 1: nothing is uncertain");
        for (int cents : new int[] {1, 123, 1000}) {
            FrankDesk x = Desk.uncertainAbout(1000, cents);
            x.settle(true);
            Desk.record(due, x, 0, 2, 3, 3, 1, 0);
            always(x, y -> {
                books(due, y, cents, 1000 - cents, 1000, 0, 1, 0, 1, 0, 1000, 0);
                due.is("uncertain()", y.uncertain(), 0);
            });
        }
    }

    private static void refill(Due due) {
        due.of("4 a cents: descending and loaded a more, the counter one more");
        for (int cents : new int[] {1, 2, 999_999_999}) {
            FrankDesk x = Desk.filled(5);
            Desk.fill(x, cents);
            Desk.record(due, x, 0, 1, 2, 4, cents, 0);
            always(x, y -> books(due, y, 0, cents + 5L, cents + 5L, 0, 0, 0, 2, 0, 1000, 0));
        }
    }

    private static void claim(Due due) {
        due.of("5 a cents (b is the day on which it was written): descending and claimed a more, claims one more");
        for (int cents : new int[] {1, 2000}) {
            for (int day : new int[] {0, 100_000}) {
                FrankDesk x = Desk.filled(5000);
                Desk.frankMany(x, 100, 20);
                due.is("claimBack", x.claimBack(day, cents), 1);
                Desk.record(due, x, 0, 9, 202, 5, cents, day);
                always(x, y -> {
                    books(due, y, 2000, 3000 + cents, 5000, cents, 100, 1, 1, 0, 1000, 0);
                    due.is("the day is as it was", y.dayTotal(0, 0), 0);
                });
            }
        }
    }

    private static void inspection(Due due) {
        due.of("6 the inspection day is a");
        for (int day : new int[] {1000, 1001, 100_000}) {
            FrankDesk x = new FrankDesk(77);
            x.inspect(day);
            Desk.record(due, x, 0, 0, 1, 6, day, 0);
            always(x, y -> books(due, y, 0, 0, 0, 0, 0, 0, 0, 0, day, 0));
        }
    }

    private static void locking(Due due) {
        FrankDesk x = new FrankDesk(77);
        due.of("7 locked");
        x.lock();
        Desk.record(due, x, 0, 0, 1, 7, 0, 0);
        always(x, y -> books(due, y, 0, 0, 0, 0, 0, 0, 0, 1, 1000, 0));
        due.of("8 not locked");
        FrankDesk z = new FrankDesk(77);
        z.lock();
        z.unlock(z.codeFor(0, 0));
        Desk.record(due, z, 0, 1, 2, 8, 0, 0);
        always(z, y -> books(due, y, 0, 0, 0, 0, 0, 0, 0, 0, 1000, 0));
    }

    private static void version(Due due) {
        due.of("9 the version is a");
        for (int version : new int[] {0, 1, Integer.MAX_VALUE}) {
            FrankDesk x = new FrankDesk(77);
            x.loadTable(version);
            Desk.record(due, x, 0, 0, 1, 9, version, 0);
            always(x, y -> books(due, y, 0, 0, 0, 0, 0, 0, 0, 0, 1000, version));
        }
    }
}
