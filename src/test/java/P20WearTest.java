/** Promise 20: wear. */
public final class P20WearTest {
    public static void main(String[] args) {
        Due due = new Due();
        atFirst(due);
        roundAndRound(due);
        noneSuch(due);
        failedOnesCount(due);
        failedBehindTheErase(due);
        withoutPower(due);
        due.end();
    }

    private static void atFirst(Due due) {
        due.of("sector 0 once at first");
        FrankDesk x = new FrankDesk(77);
        for (int sector = 0; sector < 16; sector++) {
            due.is("wear(" + sector + ")", x.wear(sector), sector == 0 ? 1 : 0);
        }
    }

    private static void roundAndRound(Due due) {
        due.of("How often a sector was erased");
        for (int records = 0; records <= 480; records++) {
            if (records % 12 > 1) {
                continue;
            }
            FrankDesk x = new FrankDesk(77);
            Desk.writeMany(x, records);
            int started = records == 0 ? 1 : 1 + (records - 1) / 12;
            for (int sector = 0; sector < 16; sector++) {
                int want = started / 16 + (sector < started % 16 ? 1 : 0);
                due.is("wear(" + sector + ") of " + records + " records", x.wear(sector), want);
            }
        }
    }

    private static void noneSuch(Due due) {
        due.of("BAD: none such");
        FrankDesk x = new FrankDesk(77);
        due.is("wear(-1)", x.wear(-1), -1);
        due.is("wear(15)", x.wear(15), 0);
        due.is("wear(16)", x.wear(16), -1);
        due.is("wear(17)", x.wear(17), -1);
        for (int odd : Desk.ODD_NUMBERS) {
            due.is("wear(" + odd + ")", x.wear(odd), -1);
        }
    }

    private static void failedOnesCount(Due due) {
        due.of("a failed one counts");
        for (int mask : new int[] {0, -1, 0x55555555}) {
            FrankDesk x = new FrankDesk(77);
            Desk.writeMany(x, 12);
            for (int i = 1; i <= 10; i++) {
                x.cut(0, mask);
                due.is("the erase fails", x.inspect(1000), FrankDesk.CUT);
                due.is("wear(1) without power", x.wear(1), i);
                x.inspect(1000);
                due.is("nothing is erased without power", x.wear(1), i);
                x.mount();
                due.is("mount() erases nothing", x.wear(1), i);
            }
            x.inspect(1000);
            due.is("wear(1)", x.wear(1), 11);
            due.is("wear(0)", x.wear(0), 1);
            due.is("wear(2)", x.wear(2), 0);
        }
    }

    private static void failedBehindTheErase(Due due) {
        due.of("How often a sector was erased: power failed behind the erase");
        for (int left : new int[] {1, 2, 194, 195, 199}) {
            FrankDesk x = new FrankDesk(77);
            Desk.writeMany(x, 12);
            x.cut(left, 0);
            due.is("record 13", x.inspect(1000), FrankDesk.CUT);
            due.is("wear(1) with " + left + " left", x.wear(1), 1);
            due.is("wear(2) with " + left + " left", x.wear(2), 0);
        }
        FrankDesk x = new FrankDesk(77);
        x.cut(0, 0);
        x.inspect(1000);
        due.is("a failed write is no erase", x.wear(0), 1);
    }

    private static void withoutPower(Due due) {
        due.of("Also without power");
        FrankDesk x = new FrankDesk(77);
        Desk.powerOff(x);
        due.is("wear(0)", x.wear(0), 1);
        due.is("wear(15)", x.wear(15), 0);
        due.is("wear(16)", x.wear(16), -1);
        due.is("wear(-1)", x.wear(-1), -1);
        due.is("it brings no power", x.book(0), FrankDesk.CUT);
    }
}
