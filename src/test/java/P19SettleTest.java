/** Promise 19: settle. */
public final class P19SettleTest {
    public static void main(String[] args) {
        Due due = new Due();
        none(due);
        itWas(due);
        itWasNot(due);
        everyCut(due);
        due.end();
    }

    private static void none(Due due) {
        FrankDesk x = Desk.filled(1000);
        x.frank(0, 1, 1);
        due.is("settle(true)", x.settle(true), 0);
        due.is("settle(false)", x.settle(false), 0);
        due.is("no record", x.mount(), 3);
    }

    private static void itWas(Due due) {
        FrankDesk x = Desk.uncertainAbout(1000, 10);
        due.is("settle(true)", x.settle(true), 1);
        Desk.record(due, x, 0, 2, 3, 3, 1, 0);
        due.is("ascending", x.book(0), 10);
        due.is("descending", x.book(1), 990);
        due.is("claimed", x.book(3), 0);
        due.is("claims", x.book(5), 0);
        due.is("settle again", x.settle(true), 0);
        due.is("sound()", x.sound(), 1);
    }

    private static void itWasNot(Due due) {
        FrankDesk x = Desk.uncertainAbout(1000, 10);
        x.lock();
        due.is("settle(false) when locked", x.settle(false), 1);
        Desk.record(due, x, 0, 3, 4, 3, 0, 0);
        due.is("ascending", x.book(0), 10);
        due.is("descending", x.book(1), 1000);
        due.is("claimed", x.book(3), 10);
        due.is("claims", x.book(5), 0);
        due.is("pieces", x.book(4), 1);
        due.is("cents of the department", x.counter(2, 1), 10);
        due.is("cents of the day", x.dayTotal(7, 1), 10);
        due.is("settle again", x.settle(false), 0);
        due.is("sound()", x.sound(), 1);
        Desk.powerOff(x);
        x.mount();
        due.is("descending behind a cut", x.book(1), 1000);
        due.is("claimed behind a cut", x.book(3), 10);
    }

    private static void everyCut(Due due) {
        for (int left = 0; left <= 5; left++) {
            FrankDesk x = Desk.uncertainAbout(1000, 10);
            x.cut(left, 0);
            due.is("settle with " + left + " left", x.settle(false), left == 5 ? 1 : -7);
            if (left < 5) {
                due.is("settle without power", x.settle(false), -7);
                due.is("settle without power", x.settle(true), -7);
            }
            x.mount();
            due.is("uncertain()", x.uncertain(), left == 5 ? 0 : 1);
            due.is("claimed", x.book(3), left == 5 ? 10 : 0);
        }
    }
}
