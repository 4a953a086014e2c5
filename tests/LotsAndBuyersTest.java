/** Promises 1 (a new object), 2 (lot), 3 (buyer), 11 (left) and 26 (order). */
public final class LotsAndBuyersTest {
    private static final Due due = new Due();

    public static void main(String[] args) {
        promise1NewObject();
        promise2Lot();
        promise2SixtyLots();
        promise3Buyer();
        promise3ThirtyBuyers();
        promise11Left();
        promise26Order();
        promise26OnlyOpenLots();
        due.end();
    }

    private static void promise1NewObject() {
        ClockAuctions a = new ClockAuctions();
        due.is("NONE", ClockAuctions.NONE, -1);
        due.is("left(0)", a.left(0), -1);
        due.is("winner(0)", a.winner(0), -1);
        due.is("price(0)", a.price(0), -1);
        due.is("held(0)", a.held(0), -1);
        due.is("clock()", a.clock(), -1);
        due.is("record(0, 0)", a.record(0, 0), -1);
        due.is("chained()", a.chained(), true);
        due.is("sum()", a.sum(), 0);
        due.is("proved()", a.proved(), false);
        due.is("delay(0, 0)", a.delay(0, 0), false);
        due.is("on(0, 0)", a.on(0, 0), false);
        due.is("first lot", a.lot(0, 1, 0), 0);
        due.is("first buyer", a.buyer(0), 0);
    }

    private static void promise2Lot() {
        ClockAuctions a = new ClockAuctions();
        due.is("kind -1", a.lot(-1, 1, 0), -1);
        due.is("kind 10", a.lot(10, 1, 0), -1);
        due.is("grams 0", a.lot(0, 0, 0), -1);
        due.is("grams -5", a.lot(0, -5, 0), -1);
        due.is("grams 10^9 + 1", a.lot(0, 1000000001L, 0), -1);
        due.is("grams 2^32 + 1", a.lot(0, 4294967297L, 0), -1);
        due.is("reserve -1", a.lot(0, 1, -1), -1);
        due.is("reserve 10^9 + 1", a.lot(0, 1, 1000000001L), -1);
        due.is("the least lot", a.lot(0, 1, 0), 0);
        due.is("the greatest lot", a.lot(9, 1000000000L, 1000000000L), 1);
        due.is("grams of the least", a.left(0), 1);
        due.is("grams of the greatest", a.left(1), 1000000000L);
        due.is("it is OPEN", a.order(9, 0), 1);
        due.is("its reserve holds", a.start(1, 999999999L, 1), -1);
        due.is("its reserve is enough", a.start(1, 1000000000L, 1), 100);
    }

    private static void promise2SixtyLots() {
        ClockAuctions a = new ClockAuctions();
        for (int i = 0; i < 60; i++) {
            due.is("lot " + i, a.lot(i % 10, 1 + i, i), i);
        }
        due.is("lot 60", a.lot(0, 1, 0), -1);
        due.is("left(59)", a.left(59), 60);
        due.is("left(60)", a.left(60), -1);
    }

    private static void promise3Buyer() {
        ClockAuctions a = new ClockAuctions();
        due.is("credit -1", a.buyer(-1), -1);
        due.is("credit 10^12 + 1", a.buyer(1000000000001L), -1);
        due.is("credit 0", a.buyer(0), 0);
        due.is("credit 10^12", a.buyer(1000000000000L), 1);
        due.is("held(0)", a.held(0), 0);
        due.is("held(1)", a.held(1), 0);
        a.lot(0, 1, 0);
        due.is("no money at all", a.rise(0, 0, 1), 4);
        due.is("too much", a.rise(0, 1, 1000000000001L), 4);
        due.is("all of it", a.rise(0, 1, 1000000000000L), 0);
        a.lot(0, 1, 0);
        a.start(1, 100, 1);
        due.is("press at 99", a.press(0, 99), true);
        due.is("no delay: the press is at 99, not before", a.press(0, 98), true);
    }

    private static void promise3ThirtyBuyers() {
        ClockAuctions a = new ClockAuctions();
        for (int i = 0; i < 30; i++) {
            due.is("buyer " + i, a.buyer(i), i);
        }
        due.is("buyer 30", a.buyer(1), -1);
        due.is("held(29)", a.held(29), 0);
        due.is("held(30)", a.held(30), -1);
        due.is("held(-1)", a.held(-1), -1);
    }

    private static void promise11Left() {
        ClockAuctions a = new ClockAuctions();
        a.lot(4, 900, 50);
        a.buyer(1000);
        due.is("left(0)", a.left(0), 900);
        due.is("left(1)", a.left(1), -1);
        due.is("left(-1)", a.left(-1), -1);
        due.is("left(2^31 - 1)", a.left(Integer.MAX_VALUE), -1);
        a.start(0, 50, 1);
        due.is("left(0) of a lot that is ON", a.left(0), 900);
        a.press(0, 0);
        a.tick(1);
        due.is("left(0) of a lot that is SOLD", a.left(0), 900);
        a.part(0, 899);
        due.is("left(0) of what was taken", a.left(0), 899);
        due.is("left(1) of the others", a.left(1), 1);
    }

    private static void promise26Order() {
        ClockAuctions a = new ClockAuctions();
        a.lot(1, 5, 0);
        a.lot(2, 9, 0);
        a.lot(1, 7, 0);
        a.lot(1, 5, 0);
        a.lot(1, 6, 0);
        int[] want = {2, 4, 0, 3, -1};
        for (int k = 0; k < want.length; k++) {
            due.is("order(1, " + k + ")", a.order(1, k), want[k]);
        }
        due.is("order(2, 0)", a.order(2, 0), 1);
        due.is("order(2, 1)", a.order(2, 1), -1);
        due.is("order(0, 0)", a.order(0, 0), -1);
        due.is("order(1, -1)", a.order(1, -1), -1);
        due.is("order(10, 0)", a.order(10, 0), -1);
        due.is("order(-1, 0)", a.order(-1, 0), -1);
        due.is("order(1, 2^31 - 1)", a.order(1, Integer.MAX_VALUE), -1);
    }

    private static void promise26OnlyOpenLots() {
        ClockAuctions a = new ClockAuctions();
        for (int i = 0; i < 5; i++) {
            a.lot(0, 10, 0);
        }
        a.buyer(100);
        a.start(0, 0, 1);
        a.rise(1, 0, 5);
        a.back(2);
        due.is("ON, OFFERED and BACK are left out", a.order(0, 0), 3);
        due.is("the next", a.order(0, 1), 4);
        due.is("behind the last", a.order(0, 2), -1);
        a.tick(100);
        due.is("UNSOLD is left out", a.order(0, 0), 3);
        a.again(0);
        due.is("open again", a.order(0, 0), 0);
        a.tick(10000);
        due.is("SOLD is left out", a.order(0, 1), 3);
    }
}
