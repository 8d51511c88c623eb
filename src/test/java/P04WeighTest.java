/** Promise 4: weigh. */
public final class P04WeighTest {
    public static void main(String[] args) {
        Due due = new Due();
        FrankDesk x = new FrankDesk(77);
        for (int step = 0; step < 10; step++) {
            x.rate(5, step, 2, 100 + step);
        }
        x.loadTable(1);
        for (int grams = 1; grams <= 500; grams++) {
            due.is("weigh(5, " + grams + ", 2)", x.weigh(5, grams, 2), 100 + (grams - 1) / 50);
        }
        due.is("weigh(5, 0, 2)", x.weigh(5, 0, 2), -1);
        due.is("weigh(5, 501, 2)", x.weigh(5, 501, 2), -1);
        due.is("weigh(5, -48, 2)", x.weigh(5, -48, 2), -1);
        due.is("weigh(8, 1, 2)", x.weigh(8, 1, 2), -1);
        due.is("weigh(5, 1, 4)", x.weigh(5, 1, 4), -1);
        due.is("weigh of a service without a rate", x.weigh(5, 1, 1), -1);
        due.is("weigh of a zone without a rate", x.weigh(4, 1, 2), -1);
        for (int odd : Desk.ODD_NUMBERS) {
            due.is("weigh of zone " + odd, x.weigh(odd, 1, 2), -1);
            due.is("weigh of grams " + odd, x.weigh(5, odd, 2), -1);
            due.is("weigh of service " + odd, x.weigh(5, 1, odd), -1);
        }
        Desk.powerOff(x);
        due.is("weigh without power", x.weigh(5, 51, 2), 101);
        due.is("wrong weigh without power", x.weigh(5, 0, 2), -1);
        due.end();
    }
}
