/** Promise 3: loadTable. */
public final class P03LoadTableTest {
    public static void main(String[] args) {
        Due due = new Due();
        notBelow(due);
        lower(due);
        belowZero(due);
        record(due);
        refusedTable(due);
        everyCutInARecord(due);
        everyCutInASector(due);
        withoutPower(due);
        due.end();
    }

    private static void notBelow(Due due) {
        due.of("with a version not below that of the books");
        FrankDesk x = new FrankDesk(77);
        int[] versions = {0, 0, 1, 3, 3, 4, Integer.MAX_VALUE - 1, Integer.MAX_VALUE, Integer.MAX_VALUE};
        for (int version : versions) {
            due.is("loadTable(" + version + ")", x.loadTable(version), 1);
            due.is("book(9)", x.book(9), version);
        }
        due.is("records", x.mount(), versions.length);
    }

    private static void lower(Due due) {
        due.of("NO: lower");
        int[] versions = {1, 2, 77, Integer.MAX_VALUE};
        for (int version : versions) {
            FrankDesk x = new FrankDesk(77);
            x.loadTable(version);
            due.is("loadTable of one less than " + version, x.loadTable(version - 1), 0);
            due.is("loadTable(0) below " + version, x.loadTable(0), 0);
            due.is("book(9)", x.book(9), version);
            due.is("records", x.mount(), 1);
            Desk.cycle(x);
            due.is("loadTable of one less behind a cut", x.loadTable(version - 1), 0);
            due.is("loadTable of the same behind a cut", x.loadTable(version), 1);
        }
    }

    private static void belowZero(Due due) {
        due.of("NO: below 0");
        FrankDesk x = new FrankDesk(77);
        for (int version : new int[] {-1, -2, Integer.MIN_VALUE}) {
            due.is("loadTable(" + version + ")", x.loadTable(version), 0);
        }
        due.is("records", x.mount(), 0);
        due.is("loadTable(0)", x.loadTable(0), 1);
        due.is("loadTable(-1) then", x.loadTable(-1), 0);
    }

    private static void record(Due due) {
        due.of("record 9");
        FrankDesk x = new FrankDesk(77);
        x.loadTable(12);
        Desk.record(due, x, 0, 0, 1, 9, 12, 0);
        due.is("the place behind it", x.word(0, 199), Desk.ALL_ONES);
    }

    private static void refusedTable(Due due) {
        due.of("The drafts become the table that is used: not of a refused call");
        FrankDesk x = new FrankDesk(77);
        x.loadTable(3);
        x.rate(0, 0, 0, 9);
        x.loadTable(2);
        due.is("weigh behind loadTable(2)", x.weigh(0, 1, 0), -1);
        x.loadTable(-1);
        due.is("weigh behind loadTable(-1)", x.weigh(0, 1, 0), -1);
        x.loadTable(3);
        due.is("weigh behind loadTable(3)", x.weigh(0, 1, 0), 9);
        x.lock();
        x.rate(0, 0, 0, 10);
        due.is("loadTable when locked", x.loadTable(3), 1);
        due.is("weigh then", x.weigh(0, 1, 0), 10);
    }

    private static void everyCutInARecord(Due due) {
        due.of("CUT: power failed in it: the table is as it was then");
        for (int left = 0; left <= 5; left++) {
            cutIn(due, 1, left, 5);
        }
    }

    private static void everyCutInASector(Due due) {
        due.of("CUT: power failed in it, where it needs a new sector");
        for (int left = 0; left <= 200; left++) {
            cutIn(due, 12, left, 200);
        }
    }

    private static void cutIn(Due due, int records, int left, int needed) {
        FrankDesk x = new FrankDesk(77);
        x.rate(3, 3, 3, 30);
        x.loadTable(1);
        Desk.writeMany(x, records - 1);
        x.rate(3, 3, 3, 40);
        x.cut(left, 0);
        boolean whole = left >= needed;
        due.is("loadTable(2) with " + left + " left", x.loadTable(2), whole ? 1 : FrankDesk.CUT);
        due.is("the table with " + left + " left", x.weigh(3, 200, 3), whole ? 40 : 30);
        x.mount();
        due.is("the version with " + left + " left", x.book(9), whole ? 2 : 1);
        due.is("the table behind the mount", x.weigh(3, 200, 3), whole ? 40 : 30);
        x.cut(100_000, 0);
        x.loadTable(2);
        due.is("the draft was not lost", x.weigh(3, 200, 3), 40);
    }

    private static void withoutPower(Due due) {
        due.of("CUT (no power)");
        FrankDesk x = new FrankDesk(77);
        x.rate(3, 3, 3, 30);
        Desk.powerOff(x);
        due.is("loadTable(2)", x.loadTable(2), FrankDesk.CUT);
        due.is("loadTable(-1)", x.loadTable(-1), FrankDesk.CUT);
        due.is("the table", x.weigh(3, 200, 3), -1);
        x.mount();
        due.is("the version", x.book(9), 0);
        due.is("the table behind the mount", x.weigh(3, 200, 3), -1);
    }
}
