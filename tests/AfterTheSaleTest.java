/** Promises 8 (winner), 9 (price), 10 (part), 21 (held), 22 (again), 23 (fee) and 27 (back). */
public final class AfterTheSaleTest {
    private static final Due due = new Due();

    public static void main(String[] args) {
        promises8And9WinnerAndPrice();
        promise10Part();
        promise10Refused();
        promise10PartOfAPart();
        promise10SixtyLots();
        promise10Greatest();
        promise21Held();
        promise22Again();
        promise22ReserveLessATenth();
        promise23Fee();
        promise27Back();
        promise27OfferIsFreeAgain();
        due.end();
    }

    private static ClockAuctions withLots(int lots, long grams, long reserve) {
        ClockAuctions a = new ClockAuctions();
        for (int i = 0; i < lots; i++) {
            a.lot(3, grams, reserve);
        }
        a.buyer(1000000000000L);
        a.buyer(5000);
        return a;
    }

    private static void sellByClock(ClockAuctions a, int lot, int buyer, long cents) {
        a.start(lot, cents, 1000000);
        a.press(buyer, 0);
        due.is("sold by the clock", a.tick(1), 1);
    }

    private static void promises8And9WinnerAndPrice() {
        ClockAuctions a = withLots(5, 10, 100);
        due.is("winner of an OPEN lot", a.winner(0), -1);
        due.is("price of an OPEN lot", a.price(0), -1);
        a.start(0, 150, 1);
        due.is("winner of a lot that is ON", a.winner(0), -1);
        due.is("price of a lot that is ON", a.price(0), -1);
        a.press(1, 0);
        a.tick(1);
        due.is("winner by the clock", a.winner(0), 1);
        due.is("price by the clock", a.price(0), 150);
        a.rise(1, 0, 200);
        a.rise(1, 1, 300);
        due.is("winner of the last offer", a.winner(1), 1);
        due.is("price of the last offer", a.price(1), 300);
        a.tick(10000);
        due.is("winner by offers", a.winner(1), 1);
        due.is("price by offers", a.price(1), 300);
        a.rise(2, 0, 200);
        a.back(2);
        due.is("winner of a lot that is BACK", a.winner(2), -1);
        due.is("price of a lot that is BACK", a.price(2), -1);
        a.bid(0, 777);
        a.on(0, 4);
        a.on(0, 3);
        a.sets(2);
        due.is("winner in a set, the least lot", a.winner(3), 0);
        due.is("the whole bid", a.price(3), 777);
        due.is("winner in a set, another lot", a.winner(4), 0);
        due.is("others 0", a.price(4), 0);
        due.is("winner(-1)", a.winner(-1), -1);
        due.is("winner(5)", a.winner(5), -1);
        due.is("price(-1)", a.price(-1), -1);
        due.is("price(5)", a.price(5), -1);
        due.is("winner(2^31 - 1)", a.winner(Integer.MAX_VALUE), -1);
        due.is("price(-2^31)", a.price(Integer.MIN_VALUE), -1);
    }

    private static void promise10Part() {
        ClockAuctions a = withLots(1, 7, 101);
        sellByClock(a, 0, 1, 200);
        due.is("part(0, 3)", a.part(0, 3), 1);
        due.is("200 * 3 / 7, rounded up", a.price(0), 86);
        due.is("held(1)", a.held(1), 86);
        due.is("left(0)", a.left(0), 3);
        due.is("left(1)", a.left(1), 4);
        due.is("the new lot is OPEN, of its kind", a.order(3, 0), 1);
        due.is("and has no winner", a.winner(1), -1);
        due.is("101 * 4 / 7, rounded up, is 58", a.rise(1, 0, 57), 3);
        due.is("58 is enough", a.rise(1, 0, 58), 0);
        due.is("once", a.part(0, 1), -1);
        due.is("record 1", a.record(1, 0), 5);
        due.is("its lot is the one that was sold", a.record(1, 1), 0);
        due.is("its buyer", a.record(1, 2), 1);
        due.is("its price is what is left", a.record(1, 3), 86);

        ClockAuctions b = withLots(1, 10, 100);
        sellByClock(b, 0, 1, 200);
        b.part(0, 5);
        due.is("nothing to round up", b.price(0), 100);
        due.is("nor in the reserve", b.rise(1, 0, 50), 0);

        ClockAuctions c = withLots(1, 7, 2);
        sellByClock(c, 0, 1, 5);
        c.part(0, 3);
        due.is("5 * 3 / 7: one over is rounded up", c.price(0), 3);
        due.is("2 * 4 / 7: and so in the reserve", c.rise(1, 0, 1), 3);
    }

    private static void promise10Refused() {
        ClockAuctions a = withLots(4, 10, 100);
        sellByClock(a, 0, 1, 100);
        due.is("no such lot", a.part(4, 5), -1);
        due.is("lot -1", a.part(-1, 5), -1);
        due.is("an OPEN lot", a.part(1, 5), -1);
        a.start(1, 100, 1);
        due.is("a lot that is ON", a.part(1, 5), -1);
        a.tick(100);
        due.is("an UNSOLD lot", a.part(1, 5), -1);
        a.rise(2, 0, 100);
        due.is("an OFFERED lot", a.part(2, 5), -1);
        a.tick(10000);
        due.is("a lot that was sold by offers", a.part(2, 5), -1);
        a.bid(0, 100);
        a.on(0, 3);
        a.sets(2);
        due.is("a lot that was sold in a set", a.part(3, 5), -1);
        due.is("0 grams", a.part(0, 0), -1);
        due.is("-1 grams", a.part(0, -1), -1);
        due.is("all its grams", a.part(0, 10), -1);
        due.is("what is refused changes nothing", a.part(0, 9), 4);
        due.is("price(0)", a.price(0), 90);
    }

    private static void promise10PartOfAPart() {
        ClockAuctions a = withLots(1, 100, 1000);
        sellByClock(a, 0, 0, 1000);
        a.part(0, 40);
        sellByClock(a, 1, 1, 600);
        due.is("a part's others have a part too", a.part(1, 20), 2);
        due.is("price(1)", a.price(1), 200);
        due.is("left(2)", a.left(2), 40);
        a.start(2, 400, 1);
        a.tick(1000000);
        due.is("and are open again", a.again(2), 1);
        due.is("400 less 40", a.start(2, 359, 1), -1);
        due.is("at 360", a.start(2, 360, 1), 100);
    }

    private static void promise10SixtyLots() {
        ClockAuctions a = withLots(59, 10, 0);
        sellByClock(a, 0, 0, 5);
        sellByClock(a, 1, 0, 5);
        due.is("the 60th lot", a.part(0, 5), 59);
        due.is("there are 60", a.part(1, 5), -1);
        due.is("its price stays", a.price(1), 5);
        due.is("its grams stay", a.left(1), 10);
        due.is("no record of it", a.record(3, 0), -1);
    }

    private static void promise10Greatest() {
        ClockAuctions a = withLots(1, 1000000000L, 1000000000L);
        sellByClock(a, 0, 0, 1000000000L);
        due.is("part", a.part(0, 999999999L), 1);
        due.is("price(0)", a.price(0), 999999999L);
        due.is("the reserve of one gram", a.start(1, 0, 1), -1);
        due.is("is 1", a.start(1, 1, 1), 100);
    }

    private static void promise21Held() {
        ClockAuctions a = withLots(4, 10, 10);
        due.is("held(2)", a.held(2), -1);
        due.is("held(-1)", a.held(-1), -1);
        due.is("nothing", a.held(1), 0);
        a.rise(0, 1, 100);
        due.is("an offer", a.held(1), 100);
        a.rise(1, 1, 200);
        due.is("two offers", a.held(1), 300);
        a.rise(0, 0, 105);
        due.is("the place of one is taken", a.held(1), 200);
        due.is("by another", a.held(0), 105);
        a.tick(10000);
        due.is("what is sold by offers stays held", a.held(1), 200);
        sellByClock(a, 2, 1, 1000);
        due.is("what is sold by the clock", a.held(1), 1200);
        a.part(2, 5);
        due.is("a part is freed", a.held(1), 700);
        a.bid(1, 4300);
        a.on(0, 3);
        a.sets(2);
        due.is("a set, all that was FREE", a.held(1), 5000);
        a.lot(0, 10, 0);
        due.is("nothing is FREE", a.rise(5, 1, 1), 4);
        due.is("but for nothing", a.rise(5, 1, 0), 0);
    }

    private static void promise22Again() {
        ClockAuctions a = withLots(3, 10, 100);
        due.is("no such lot", a.again(3), -1);
        due.is("lot -1", a.again(-1), -1);
        due.is("an OPEN lot", a.again(0), -1);
        a.start(0, 100, 1);
        due.is("a lot that is ON", a.again(0), -1);
        a.tick(100);
        due.is("an UNSOLD lot", a.again(0), 1);
        due.is("it is OPEN now", a.again(0), -1);
        due.is("it can be had by offers, not for 89", a.rise(0, 0, 89), 3);
        due.is("for 90", a.rise(0, 0, 90), 0);
        due.is("an OFFERED lot", a.again(0), -1);
        a.tick(10000);
        due.is("a SOLD lot", a.again(0), -1);
        a.start(1, 100, 1);
        a.tick(100);
        a.again(1);
        a.start(1, 90, 1);
        a.tick(100);
        due.is("once", a.again(1), -1);
        due.is("it stays UNSOLD", a.start(1, 90, 1), -1);
        a.back(1);
        due.is("a lot that is BACK", a.again(1), -1);
        a.start(2, 100, 1);
        a.tick(100);
        due.is("another lot has its own time", a.again(2), 1);
    }

    private static void promise22ReserveLessATenth() {
        long[][] reserves = {{0, 0}, {9, 9}, {10, 9}, {19, 18}, {99, 90}, {1000000000L, 900000000L}};
        for (long[] r : reserves) {
            ClockAuctions a = withLots(1, 10, r[0]);
            a.start(0, r[0], 1);
            a.tick(100);
            due.is("again", a.again(0), 1);
            due.is("record 1 tells it", a.record(1, 0), 6);
            due.is("with the reserve then", a.record(1, 3), r[1] % 1000000000L);
            due.is("below it", a.start(0, r[1] - 1, 1), -1);
            due.is("at it", a.start(0, r[1], 1), 100);
        }
    }

    private static void promise23Fee() {
        long[][] fees = {{0, 30}, {1, 31}, {50, 31}, {51, 32}, {100, 32}, {999999999L, 20000030L}};
        for (long[] f : fees) {
            ClockAuctions a = withLots(1, 10, 0);
            due.is("fee of an OPEN lot", a.fee(0), -1);
            sellByClock(a, 0, 0, f[0]);
            due.is("fee for " + f[0], a.fee(0), f[1]);
        }
        ClockAuctions a = withLots(6, 10, 0);
        a.start(0, 5, 1);
        due.is("a lot that is ON", a.fee(0), -1);
        a.tick(1000);
        due.is("an UNSOLD lot", a.fee(0), -1);
        a.back(0);
        due.is("a lot that is BACK", a.fee(0), -1);
        a.rise(1, 0, 1000);
        due.is("an OFFERED lot", a.fee(1), -1);
        a.tick(10000);
        due.is("sold by offers", a.fee(1), 50);
        a.bid(0, 1000000);
        a.on(0, 2);
        a.on(0, 3);
        a.sets(2);
        due.is("the least lot of a set", a.fee(2), 20030);
        due.is("another lot of a set", a.fee(3), 30);
        sellByClock(a, 4, 0, 1000);
        a.part(4, 5);
        due.is("of the price that is left", a.fee(4), 40);
        due.is("fee(-1)", a.fee(-1), -1);
        due.is("fee(60)", a.fee(60), -1);
    }

    private static void promise27Back() {
        ClockAuctions a = withLots(5, 10, 0);
        due.is("no such lot", a.back(5), -1);
        due.is("lot -1", a.back(-1), -1);
        due.is("OPEN", a.back(0), 1);
        due.is("BACK", a.back(0), -1);
        due.is("not to be had by offers", a.rise(0, 0, 10), 2);
        due.is("nor on the clock", a.start(0, 10, 1), -1);
        due.is("nor again", a.again(0), -1);
        a.start(1, 0, 1);
        due.is("ON", a.back(1), -1);
        a.tick(100);
        due.is("UNSOLD", a.back(1), 1);
        due.is("not open again", a.again(1), -1);
        sellByClock(a, 2, 0, 10);
        due.is("SOLD", a.back(2), -1);
        due.is("it stays SOLD", a.winner(2), 0);
        due.is("record of the first", a.record(0, 0), 7);
        due.is("its lot", a.record(0, 1), 0);
        due.is("its buyer", a.record(0, 2), -1);
        due.is("its price", a.record(0, 3), 0);
    }

    private static void promise27OfferIsFreeAgain() {
        ClockAuctions a = withLots(2, 10, 0);
        a.rise(0, 1, 5000);
        due.is("all is held", a.rise(1, 1, 1), 4);
        due.is("OFFERED", a.back(0), 1);
        due.is("nothing is held", a.held(1), 0);
        due.is("all is FREE", a.rise(1, 1, 5000), 0);
        due.is("the record names no buyer", a.record(0, 2), -1);
        due.is("and no price", a.record(0, 3), 0);
        a.tick(10000);
        due.is("what is BACK is not sold", a.fee(0), -1);
    }
}
