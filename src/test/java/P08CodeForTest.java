import java.math.BigInteger;

/** Promise 8: codeFor. */
public final class P08CodeForTest {
    private static final int MOST = Integer.MAX_VALUE;

    public static void main(String[] args) {
        Due due = new Due();
        known(due);
        by64Bits(due);
        lessThanAMillion(due);
        counterBelowZero(due);
        centsBelowZero(due);
        withoutPower(due);
        sameAlways(due);
        due.end();
    }

    private static void known(Due due) {
        due.of("codeFor(counter, cents) is ((machine 1,009 + counter) 1,000,003 + cents 7,919) modulo 1,000,000");
        due.is("machine 77: codeFor(0, 5000)", new FrankDesk(77).codeFor(0, 5000), 828_079);
        due.is("machine 77: codeFor(1, 0)", new FrankDesk(77).codeFor(1, 0), 233_082);
        due.is("machine 4711: codeFor(3, 250)", new FrankDesk(4711).codeFor(3, 250), 239_956);
        due.is("machine 1: codeFor(5, 6)", new FrankDesk(1).codeFor(5, 6), 50_556);
        due.is("machine 1: codeFor(0, 0)", new FrankDesk(1).codeFor(0, 0), 3027);
        due.is("machine 1: codeFor(0, 1)", new FrankDesk(1).codeFor(0, 1), 10_946);
    }

    private static void by64Bits(Due due) {
        due.of("by 64 bits, machine being a number 1 .. 9,999,999");
        due.is("most of all", new FrankDesk(9_999_999).codeFor(MOST, MOST), 448_507);
        int[] numbers = {0, 1, 2, 999, 1_000_000, 123_456_789, 999_999_999, 1_000_000_000, MOST - 1, MOST};
        for (int machine : new int[] {1, 2, 500, 2_128_312, 9_999_998, 9_999_999}) {
            FrankDesk x = new FrankDesk(machine);
            for (int counter : numbers) {
                for (int cents : numbers) {
                    due.is("codeFor(" + counter + ", " + cents + ")", x.codeFor(counter, cents), big(machine, counter, cents));
                }
            }
        }
    }

    private static long big(long machine, long counter, long cents) {
        return BigInteger.valueOf(machine).multiply(BigInteger.valueOf(1009)).add(BigInteger.valueOf(counter))
                .multiply(BigInteger.valueOf(1_000_003))
                .add(BigInteger.valueOf(cents).multiply(BigInteger.valueOf(7919)))
                .mod(BigInteger.valueOf(1_000_000)).longValueExact();
    }

    /** Found by trying: the least and the greatest code of machine 1. */
    private static void lessThanAMillion(Due due) {
        due.of("modulo 1,000,000");
        FrankDesk x = new FrankDesk(1);
        int cents = 0;
        while (Desk.code(1, 0, cents) != 0) {
            cents++;
        }
        due.is("the code 0, of cents " + cents, x.codeFor(0, cents), 0);
        cents = 0;
        while (Desk.code(1, 0, cents) != 999_999) {
            cents++;
        }
        due.is("the code 999999, of cents " + cents, x.codeFor(0, cents), 999_999);
    }

    private static void counterBelowZero(Due due) {
        due.of("BAD: counter below 0");
        FrankDesk x = new FrankDesk(77);
        for (int below : new int[] {-1, -2, -1_000_000, Integer.MIN_VALUE}) {
            due.is("codeFor(" + below + ", 5)", x.codeFor(below, 5), -1);
            due.is("codeFor(" + below + ", " + below + ")", x.codeFor(below, below), -1);
        }
        due.is("codeFor(0, 5)", x.codeFor(0, 5), Desk.code(77, 0, 5));
    }

    private static void centsBelowZero(Due due) {
        due.of("BAD: cents below 0");
        FrankDesk x = new FrankDesk(77);
        for (int below : new int[] {-1, -2, -1_000_000, Integer.MIN_VALUE}) {
            due.is("codeFor(5, " + below + ")", x.codeFor(5, below), -1);
        }
        due.is("codeFor(5, 0)", x.codeFor(5, 0), Desk.code(77, 5, 0));
    }

    private static void withoutPower(Due due) {
        due.of("Also without power");
        FrankDesk x = new FrankDesk(77);
        Desk.powerOff(x);
        due.is("codeFor(0, 5000)", x.codeFor(0, 5000), 828_079);
        due.is("codeFor(-1, 5000)", x.codeFor(-1, 5000), -1);
        due.is("codeFor(0, -1)", x.codeFor(0, -1), -1);
        due.is("it brings no power", x.book(0), FrankDesk.CUT);
    }

    private static void sameAlways(Due due) {
        due.of("codeFor(counter, cents), whatever the desk's own counter is");
        FrankDesk x = Desk.filled(1000);
        x.frank(0, 1, 1);
        x.lock();
        due.is("codeFor(0, 5000)", x.codeFor(0, 5000), 828_079);
    }
}
