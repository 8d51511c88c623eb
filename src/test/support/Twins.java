/** The desk and its model, called together; every answer of the one is due from the other. */
final class Twins {
    final FrankDesk desk;
    final Model model;
    private final Due due;
    private final String name;
    private int calls;

    Twins(Due due, String name, int machine) {
        this.due = due;
        this.name = name;
        this.desk = new FrankDesk(machine);
        this.model = new Model(machine);
    }

    private long same(String call, long got, long want) {
        calls++;
        if (got == want) {
            due.right();
        } else {
            due.is(name + ", call " + calls + ", " + call, got, want);
        }
        return want;
    }

    int calls() {
        return calls;
    }

    long rate(int zone, int step, int service, int cents) {
        return same("rate", desk.rate(zone, step, service, cents), model.rate(zone, step, service, cents));
    }

    long loadTable(int version) {
        return same("loadTable", desk.loadTable(version), model.loadTable(version));
    }

    long weigh(int zone, int grams, int service) {
        return same("weigh", desk.weigh(zone, grams, service), model.weigh(zone, grams, service));
    }

    long frank(int department, int cents, int day) {
        return same("frank", desk.frank(department, cents, day), model.frank(department, cents, day));
    }

    long printed(int what) {
        return same("printed", desk.printed(what), model.printed(what));
    }

    long refill(int cents, int code) {
        return same("refill", desk.refill(cents, code), model.refill(cents, code));
    }

    long codeFor(int counter, int cents) {
        return same("codeFor", desk.codeFor(counter, cents), model.codeFor(counter, cents));
    }

    long claimBack(int day, int cents) {
        return same("claimBack", desk.claimBack(day, cents), model.claimBack(day, cents));
    }

    long book(int what) {
        return same("book", desk.book(what), model.book(what));
    }

    long counter(int department, int what) {
        return same("counter", desk.counter(department, what), model.counter(department, what));
    }

    long dayTotal(int day, int what) {
        return same("dayTotal", desk.dayTotal(day, what), model.dayTotal(day, what));
    }

    long inspect(int day) {
        return same("inspect", desk.inspect(day), model.inspect(day));
    }

    long lock() {
        return same("lock", desk.lock(), model.lock());
    }

    long unlock(int code) {
        return same("unlock", desk.unlock(code), model.unlock(code));
    }

    long cut(int left, int mask) {
        return same("cut", desk.cut(left, mask), model.cut(left, mask));
    }

    long mount() {
        return same("mount", desk.mount(), model.mount());
    }

    long uncertain() {
        return same("uncertain", desk.uncertain(), model.uncertain());
    }

    long settle(boolean wasPrinted) {
        return same("settle", desk.settle(wasPrinted), model.settle(wasPrinted));
    }

    long wear(int sector) {
        return same("wear", desk.wear(sector), model.wear(sector));
    }

    long word(int sector, int i) {
        return same("word", desk.word(sector, i), model.word(sector, i));
    }

    long sound() {
        return same("sound", desk.sound(), model.sound());
    }

    /** Compares all that can be seen, without counting it as calls. */
    void compareAll() {
        int before = calls;
        for (int what = 0; what < 10; what++) {
            book(what);
        }
        for (int department = 0; department < 16; department++) {
            counter(department, 0);
            counter(department, 1);
        }
        uncertain();
        sound();
        for (int sector = 0; sector < 16; sector++) {
            wear(sector);
            for (int i = 0; i < 256; i++) {
                word(sector, i);
            }
        }
        calls = before;
    }
}
