import java.math.BigInteger;

/** Promise 8: codeFor. */
public final class P08CodeForTest {
    public static void main(String[] args) {
        Due due = new Due();
        due.is("machine 77: codeFor(0, 5000)", new FrankDesk(77).codeFor(0, 5000), 828_079);
        due.is("machine 77: codeFor(1, 0)", new FrankDesk(77).codeFor(1, 0), 233_082);
        due.is("machine 4711: codeFor(3, 250)", new FrankDesk(4711).codeFor(3, 250), 239_956);
        due.is("machine 1: codeFor(5, 6)", new FrankDesk(1).codeFor(5, 6), 50_556);
        int most = Integer.MAX_VALUE;
        due.is("most of all", new FrankDesk(9_999_999).codeFor(most, most), 448_507);
        int[] numbers = {0, 1, 2, 999, 1_000_000, 123_456_789, most - 1, most};
        for (int machine : new int[] {1, 2, 500, 9_999_999}) {
            FrankDesk x = new FrankDesk(machine);
            for (int counter : numbers) {
                for (int cents : numbers) {
                    due.is("codeFor(" + counter + ", " + cents + ")", x.codeFor(counter, cents), big(machine, counter, cents));
                }
            }
        }
        FrankDesk x = new FrankDesk(77);
        for (int below : new int[] {-1, -2, Integer.MIN_VALUE}) {
            due.is("counter " + below, x.codeFor(below, 5), -1);
            due.is("cents " + below, x.codeFor(5, below), -1);
            due.is("both " + below, x.codeFor(below, below), -1);
        }
        Desk.powerOff(x);
        due.is("codeFor without power", x.codeFor(0, 5000), 828_079);
        due.is("wrong codeFor without power", x.codeFor(-1, 5000), -1);
        due.end();
    }

    private static long big(long machine, long counter, long cents) {
        return BigInteger.valueOf(machine).multiply(BigInteger.valueOf(1009)).add(BigInteger.valueOf(counter))
                .multiply(BigInteger.valueOf(1_000_003))
                .add(BigInteger.valueOf(cents).multiply(BigInteger.valueOf(7919)))
                .mod(BigInteger.valueOf(1_000_000)).longValueExact();
    }
}
