/** Promise 3: loadTable. */
public final class P03LoadTableTest {
    public static void main(String[] args) {
        Due due = new Due();
        versions(due);
        record(due);
        markOfAllOnes(due);
        everyCut(due);
        due.end();
    }

    private static void versions(Due due) {
        FrankDesk x = new FrankDesk(77);
        due.is("loadTable(-1)", x.loadTable(-1), 0);
        due.is("loadTable(least)", x.loadTable(Integer.MIN_VALUE), 0);
        due.is("loadTable(0)", x.loadTable(0), 1);
        due.is("loadTable(3)", x.loadTable(3), 1);
        due.is("loadTable(3) again", x.loadTable(3), 1);
        x.rate(0, 0, 0, 9);
        due.is("loadTable(2)", x.loadTable(2), 0);
        due.is("a refused table is not used", x.weigh(0, 1, 0), -1);
        due.is("version", x.book(9), 3);
        due.is("loadTable(most)", x.loadTable(Integer.MAX_VALUE), 1);
        due.is("version", x.book(9), Integer.MAX_VALUE);
        due.is("loadTable(most - 1)", x.loadTable(Integer.MAX_VALUE - 1), 0);
        due.is("records", x.mount(), 4);
    }

    private static void record(Due due) {
        FrankDesk x = new FrankDesk(77);
        x.loadTable(12);
        Desk.record(due, x, 0, 0, 1, 9, 12, 0);
        due.is("the place behind it", x.word(0, 199), Desk.ALL_ONES);
    }

    /** This version would give its record a mark of all ones. */
    private static void markOfAllOnes(Due due) {
        FrankDesk x = new FrankDesk(77);
        due.is("loadTable(1474613908)", x.loadTable(1_474_613_908), 1);
        due.is("its mark", x.word(0, 198), 0);
        Desk.powerOff(x);
        due.is("mount()", x.mount(), 1);
        due.is("version", x.book(9), 1_474_613_908);
    }

    private static void everyCut(Due due) {
        for (int left = 0; left <= 5; left++) {
            FrankDesk x = new FrankDesk(77);
            x.rate(3, 3, 3, 30);
            x.loadTable(1);
            x.rate(3, 3, 3, 40);
            x.cut(left, 0);
            boolean whole = left == 5;
            due.is("loadTable(2) with " + left + " left", x.loadTable(2), whole ? 1 : -7);
            due.is("the table then", x.weigh(3, 200, 3), whole ? 40 : 30);
            if (!whole) {
                due.is("loadTable without power", x.loadTable(2), -7);
                due.is("wrong loadTable without power", x.loadTable(-1), -7);
                due.is("the table then", x.weigh(3, 200, 3), 30);
                x.mount();
            }
            due.is("the version then", x.book(9), whole ? 2 : 1);
            due.is("the table behind the mount", x.weigh(3, 200, 3), whole ? 40 : 30);
            x.loadTable(2);
            due.is("the draft was not lost", x.weigh(3, 200, 3), 40);
        }
    }
}
