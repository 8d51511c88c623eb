import java.util.Random;

/** No call throws, whatever its arguments, and no refused one changes anything, with power or without. */
public final class AnyArgumentsTest {
    private static final int[] NUMBERS = {Integer.MIN_VALUE, Integer.MIN_VALUE + 1, -1_000_000_000, -100_001, -100_000,
        -257, -256, -50, -32, -17, -16, -2, -1, 0, 1, 2, 3, 7, 8, 9, 10, 15, 16, 31, 32, 50, 51, 255, 256, 500, 501,
        999, 1000, 1001, 100_000, 100_001, 999_999_999, 1_000_000_000, Integer.MAX_VALUE - 1, Integer.MAX_VALUE};

    public static void main(String[] args) {
        Due due = new Due();
        Random random = new Random(5);
        for (int run = 0; run < 400; run++) {
            FrankDesk x = new FrankDesk(pick(random));
            int thrown = 0;
            // More than the 512 calls whose answers are promised: even then none may throw.
            for (int i = 0; i < 3000; i++) {
                thrown += throwsAnything(x, random);
            }
            x.mount();
            due.is("calls that threw in run " + run, thrown, 0);
            due.is("sound() in run " + run, x.sound(), 1);
        }
        refusedCallsWriteNothing(due);
        due.end();
    }

    private static int pick(Random random) {
        return random.nextInt(4) == 0 ? random.nextInt() : NUMBERS[random.nextInt(NUMBERS.length)];
    }

    private static int throwsAnything(FrankDesk x, Random random) {
        try {
            call(x, random.nextInt(24), pick(random), pick(random), pick(random), pick(random));
            return 0;
        } catch (Throwable e) {
            System.out.println(e);
            return 1;
        }
    }

    private static void call(FrankDesk x, int which, int a, int b, int c, int d) {
        switch (which) {
            case 0: x.rate(a, b, c, d); break;
            case 1: x.loadTable(a); break;
            case 2: x.weigh(a, b, c); break;
            case 3: x.frank(a, b, c); break;
            case 4: x.frank(a & 15, 1 + (b & 1023), c & 1023); break;
            case 5: x.printed(a); break;
            case 6: x.refill(a, b); break;
            case 7: x.refill(a, x.codeFor((int) x.book(6), a)); break;
            case 8: x.codeFor(a, b); break;
            case 9: x.claimBack(a, b); break;
            case 10: x.book(a); break;
            case 11: x.counter(a, b); break;
            case 12: x.dayTotal(a, b); break;
            case 13: x.inspect(a); break;
            case 14: x.lock(); break;
            case 15: x.unlock(a); break;
            case 16: x.unlock(x.codeFor((int) x.book(6), 0)); break;
            case 17: x.cut(a, b); break;
            case 18: case 19: x.mount(); break;
            case 20: x.uncertain(); break;
            case 21: x.settle(a > b); break;
            case 22: x.wear(a); x.word(a, b); break;
            default: x.sound(); break;
        }
    }

    private static void refusedCallsWriteNothing(Due due) {
        FrankDesk x = Desk.filled(100);
        x.cut(0, 0);
        for (int a : NUMBERS) {
            due.is("frank of no department", x.frank(-1, a, 0), 0);
            due.is("frank of too much", x.frank(0, 101, a), 0);
            due.is("claimBack", x.claimBack(a, 1), 0);
            due.is("settle", x.settle(a > 0), 0);
            due.is("unlock", x.unlock(a), 0);
            due.is("refill of none", x.refill(0, a), 0);
        }
        due.is("loadTable", x.loadTable(-1), 0);
        due.is("inspect", x.inspect(999), 0);
        due.is("power is there", x.mount(), 1);
        due.is("the first write fails", x.lock(), -7);
    }
}
