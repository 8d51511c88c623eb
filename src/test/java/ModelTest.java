import java.util.Random;

/** Many runs of 512 calls, by fixed seeds, on the desk and on its model. */
public final class ModelTest {
    private static final int RUNS = 1500;

    public static void main(String[] args) {
        Due due = new Due();
        long claims = 0;
        long laps = 0;
        for (int run = 0; run < RUNS && !due.anyWrong(); run++) {
            Twins x = new ModelTest(due, run).play();
            x.mount();
            claims += x.desk.book(5);
            laps += x.desk.wear(0) > 2 ? 1 : 0;
        }
        due.holds("the runs came to claims", claims > 50);
        due.holds("the runs went round the sectors", laps > 50);
        due.end();
    }

    private final Random random;
    private final Twins x;
    private final int cutsInThousand;
    private final int franksInHundred;
    private final int ceiling;

    private ModelTest(Due due, int run) {
        random = new Random(run);
        x = new Twins(due, "run " + run, random.nextInt(4) == 0 ? random.nextInt() : 1 + random.nextInt(9_999_999));
        cutsInThousand = new int[] {0, 5, 30, 150}[run % 4];
        franksInHundred = new int[] {10, 50, 90}[run / 4 % 3];
        ceiling = new int[] {100, 1_000_000, 1_000_000_100}[run / 12 % 3];
    }

    private Twins play() {
        while (x.calls() < 512) {
            if (x.desk.sound() == FrankDesk.CUT && random.nextInt(3) == 0) {
                x.mount();
            }
            if (x.desk.uncertain() == 1 && random.nextInt(3) == 0) {
                x.settle(random.nextBoolean());
            }
            if (random.nextInt(1000) < cutsInThousand) {
                x.cut(left(), random.nextInt(3) - 1 == 0 ? random.nextInt() : -random.nextInt(2));
            }
            if (random.nextInt(100) < franksInHundred) {
                x.frank(random.nextInt(16), cents(), day());
            } else {
                other();
            }
            if (x.calls() % 64 == 0) {
                x.compareAll();
            }
        }
        x.compareAll();
        return x;
    }

    private int left() {
        switch (random.nextInt(4)) {
            case 0:
                return random.nextInt(12);
            case 1:
                return 185 + random.nextInt(30);
            case 2:
                return random.nextInt(600);
            default:
                return random.nextInt(100_010) - 5;
        }
    }

    private int cents() {
        return random.nextInt(30) == 0 ? odd() : 1 + random.nextInt(ceiling);
    }

    private int day() {
        switch (random.nextInt(20)) {
            case 0:
                return odd();
            case 1:
                return (int) x.desk.book(8) + random.nextInt(3) - 1;
            default:
                return random.nextInt(100);
        }
    }

    private int odd() {
        int pick = random.nextInt(Desk.ODD_NUMBERS.length + 1);
        return pick == Desk.ODD_NUMBERS.length ? random.nextInt() : Desk.ODD_NUMBERS[pick];
    }

    private int small(int bound) {
        return random.nextInt(20) == 0 ? odd() : random.nextInt(bound + 2) - 1;
    }

    private void refill() {
        int cents = random.nextInt(3) == 0 ? 999_999_999 : cents();
        int code = x.desk.codeFor((int) x.desk.book(6), cents);
        x.refill(cents, random.nextInt(8) == 0 ? code + 1 : code);
    }

    private void unlock() {
        int code = x.desk.codeFor((int) x.desk.book(6), 0);
        x.unlock(random.nextInt(8) == 0 ? code + 1 : code);
    }

    private void other() {
        switch (random.nextInt(24)) {
            case 0: x.rate(small(8), small(10), small(4), random.nextInt(4) == 0 ? 0 : cents()); break;
            case 1: x.loadTable(random.nextInt(5) == 0 ? odd() : (int) x.desk.book(9) + random.nextInt(4) - 1); break;
            case 2: x.weigh(small(8), small(500), small(4)); break;
            case 3: x.printed(small(2)); break;
            case 4: case 5: case 6: case 7: refill(); break;
            case 8: x.codeFor(small(500), cents()); break;
            case 9: case 10: x.claimBack(day(), cents()); break;
            case 11: x.book(small(10)); break;
            case 12: x.counter(small(16), small(2)); break;
            case 13: case 14: x.dayTotal(day(), small(2)); break;
            case 15: x.inspect(random.nextInt(5) == 0 ? odd() : (int) x.desk.book(8) + random.nextInt(30) - 5); break;
            case 16: if (random.nextInt(3) == 0) { x.lock(); } break;
            case 17: case 18: unlock(); break;
            case 19: x.mount(); break;
            case 20: x.settle(random.nextBoolean()); break;
            case 21: x.uncertain(); break;
            case 22: x.word(small(16), small(256)); break;
            default: x.wear(small(16)); x.sound(); break;
        }
    }
}
