/** Edges of promises 1 (a new object), 2 (lot), 3 (buyer), 11 (left) and 26 (order). */
public final class LotEdgesTest {
    private static final int MIN = Integer.MIN_VALUE;
    private static final int MAX = Integer.MAX_VALUE;
    private static final Due due = new Due();

    public static void main(String[] args) {
        promise1NoLots();
        promise1NoBuyers();
        promise1NothingElse();
        promise1LotsWithoutBuyers();
        promise1BuyersWithoutLots();
        promise1ObjectsAreApart();
        promise2Kind();
        promise2Grams();
        promise2Reserve();
        promise2LastOfSixty();
        promise2SixtyWhateverTheyAre();
        promise2SixtyWithAPart();
        promise3Credit();
        promise3LastOfThirty();
        promise3WithoutDelay();
        promise11Index();
        promise11EachState();
        promise11LeastAndGreatest();
        promise26K();
        promise26Kind();
        promise26SameGrams();
        promise26GramsOneApart();
        promise26EachState();
        promise26SixtyLots();
        promise26GramsThatWereTaken();
        due.end();
    }

    private static void promise1NoLots() {
        ClockAuctions a = new ClockAuctions();
        due.is("start(0, 0, 1)", a.start(0, 0, 1), -1);
        due.is("winner(0)", a.winner(0), -1);
        due.is("price(0)", a.price(0), -1);
        due.is("part(0, 1)", a.part(0, 1), -1);
        due.is("left(0)", a.left(0), -1);
        due.is("again(0)", a.again(0), -1);
        due.is("fee(0)", a.fee(0), -1);
        due.is("back(0)", a.back(0), -1);
        due.is("tie(0, 0)", a.tie(0, 0), -1);
        due.is("rise(0, 0, 0)", a.rise(0, 0, 0), 1);
        for (int kind = -1; kind <= 10; kind++) {
            due.is("order(" + kind + ", 0)", a.order(kind, 0), -1);
        }
    }

    private static void promise1NoBuyers() {
        ClockAuctions a = new ClockAuctions();
        due.is("press(0, 0)", a.press(0, 0), false);
        due.is("delay(0, 0)", a.delay(0, 0), false);
        due.is("bid(0, 0)", a.bid(0, 0), -1);
        due.is("held(0)", a.held(0), -1);
    }

    private static void promise1NothingElse() {
        ClockAuctions a = new ClockAuctions();
        due.is("clock()", a.clock(), -1);
        due.is("outage(0, true)", a.outage(0, true), false);
        due.is("outage(0, false)", a.outage(0, false), false);
        due.is("on(0, 0)", a.on(0, 0), false);
        due.is("sets(2^63 - 1)", a.sets(Long.MAX_VALUE), -1);
        due.is("wins(0)", a.wins(0), false);
        due.is("sum()", a.sum(), 0);
        due.is("proved()", a.proved(), false);
        due.is("chained()", a.chained(), true);
        for (int what = 0; what < 5; what++) {
            due.is("record(0, " + what + ")", a.record(0, what), -1);
        }
        due.is("tick(1)", a.tick(1), -1);
        due.is("play(0, 200)", a.play(0, 200), 0);
        due.is("record(0, 0) behind it", a.record(0, 0), -1);
    }

    private static void promise1LotsWithoutBuyers() {
        ClockAuctions a = new ClockAuctions();
        due.is("lot", a.lot(0, 1, 0), 0);
        due.is("rise without buyers", a.rise(0, 0, 0), 1);
        due.is("bid without buyers", a.bid(0, 0), -1);
        due.is("start", a.start(0, 0, 1), 100);
        due.is("press without buyers", a.press(0, 0), false);
        due.is("tick without buyers", a.tick(100), 2);
    }

    private static void promise1BuyersWithoutLots() {
        ClockAuctions a = new ClockAuctions();
        due.is("buyer", a.buyer(10), 0);
        due.is("rise without lots", a.rise(0, 0, 0), 1);
        due.is("bid without lots", a.bid(0, 5), 0);
        due.is("on without lots", a.on(0, 0), false);
        due.is("sets without lots", a.sets(2), 0);
    }

    private static void promise1ObjectsAreApart() {
        ClockAuctions a = new ClockAuctions();
        a.lot(0, 5, 0);
        a.buyer(10);
        a.rise(0, 0, 10);
        ClockAuctions b = new ClockAuctions();
        due.is("no lot of another object", b.left(0), -1);
        due.is("no buyer of another object", b.held(0), -1);
        due.is("its own first lot", b.lot(0, 7, 0), 0);
        due.is("its own first buyer", b.buyer(20), 0);
        due.is("its own lot's grams", b.left(0), 7);
        due.is("its own buyer's money", b.held(0), 0);
        due.is("the other's are as they were", a.left(0), 5);
    }

    private static void promise2Kind() {
        ClockAuctions a = new ClockAuctions();
        for (int kind : new int[] {-1, 10, MIN, MAX, -9}) {
            due.is("kind " + kind, a.lot(kind, 1, 0), -1);
        }
        due.is("kind 0, and no number is used up", a.lot(0, 1, 0), 0);
        due.is("kind 9", a.lot(9, 1, 0), 1);
        due.is("no lot of kind 10", a.order(10, 0), -1);
        due.is("no lot of kind -1", a.order(-1, 0), -1);
        due.is("one of kind 0", a.order(0, 0), 0);
        due.is("one of kind 9", a.order(9, 0), 1);
    }

    private static void promise2Grams() {
        ClockAuctions a = new ClockAuctions();
        for (long grams : Edges.outside(1, 1000000000L)) {
            due.is("grams " + grams, a.lot(0, grams, 0), -1);
        }
        due.is("1 gram, and no number is used up", a.lot(0, 1, 0), 0);
        due.is("10^9 grams", a.lot(0, 1000000000L, 0), 1);
        due.is("left(0)", a.left(0), 1);
        due.is("left(1)", a.left(1), 1000000000L);
        due.is("left(2)", a.left(2), -1);
    }

    private static void promise2Reserve() {
        ClockAuctions a = new ClockAuctions();
        for (long reserve : Edges.outside(0, 1000000000L)) {
            due.is("reserve " + reserve, a.lot(0, 1, reserve), -1);
        }
        a.buyer(1000000000L);
        due.is("reserve 0, and no number is used up", a.lot(0, 1, 0), 0);
        due.is("reserve 10^9", a.lot(0, 1, 1000000000L), 1);
        due.is("10^9 - 1 is below it", a.rise(1, 0, 999999999L), 3);
        due.is("-1 is below 0", a.rise(0, 0, -1), 3);
        due.is("0 is not", a.rise(0, 0, 0), 0);
        due.is("10^9 is not below 10^9", a.rise(1, 0, 1000000000L), 0);
    }

    private static void promise2LastOfSixty() {
        ClockAuctions a = new ClockAuctions();
        for (int i = 0; i < 59; i++) {
            a.lot(0, 1, 0);
        }
        due.is("what is refused is none of the 60", a.lot(10, 1, 0), -1);
        due.is("the 60th", a.lot(0, 1, 0), 59);
        due.is("the 61st", a.lot(0, 1, 0), -1);
        due.is("nor another", a.lot(9, 5, 5), -1);
        due.is("left(59)", a.left(59), 1);
        due.is("left(60)", a.left(60), -1);
        due.is("the 60th is OPEN", a.start(59, 0, 1), 100);
    }

    private static void promise2SixtyWhateverTheyAre() {
        ClockAuctions a = new ClockAuctions();
        for (int i = 0; i < 60; i++) {
            a.lot(0, 1, 0);
        }
        a.buyer(10);
        a.back(0);
        due.is("a lot that is BACK is one of the 60", a.lot(0, 1, 0), -1);
        a.start(1, 5, 1);
        a.press(0, 0);
        a.tick(1);
        due.is("a lot that is SOLD is one of the 60", a.lot(0, 1, 0), -1);
    }

    private static void promise2SixtyWithAPart() {
        ClockAuctions a = new ClockAuctions();
        for (int i = 0; i < 59; i++) {
            a.lot(0, 2, 0);
        }
        a.buyer(10);
        a.start(0, 5, 1);
        a.press(0, 0);
        a.tick(1);
        due.is("a part makes the 60th", a.part(0, 1), 59);
        due.is("the 61st", a.lot(0, 1, 0), -1);
    }

    private static void promise3Credit() {
        ClockAuctions a = new ClockAuctions();
        for (long credit : Edges.outside(0, 1000000000000L)) {
            due.is("credit " + credit, a.buyer(credit), -1);
        }
        due.is("held(0) of no buyer", a.held(0), -1);
        due.is("credit 0, and no number is used up", a.buyer(0), 0);
        due.is("credit 10^12", a.buyer(1000000000000L), 1);
        a.lot(0, 1, 0);
        due.is("1 is above 0", a.rise(0, 0, 1), 4);
        due.is("0 is not", a.rise(0, 0, 0), 0);
        due.is("10^12 + 1 is above 10^12", a.rise(0, 1, 1000000000001L), 4);
        due.is("10^12 is not", a.rise(0, 1, 1000000000000L), 0);
    }

    private static void promise3LastOfThirty() {
        ClockAuctions a = new ClockAuctions();
        for (int i = 0; i < 29; i++) {
            a.buyer(i);
        }
        due.is("what is refused is none of the 30", a.buyer(-1), -1);
        due.is("the 30th", a.buyer(7), 29);
        due.is("the 31st", a.buyer(8), -1);
        due.is("nor one without credit", a.buyer(0), -1);
        due.is("held(29)", a.held(29), 0);
        due.is("held(30)", a.held(30), -1);
        a.lot(0, 1, 0);
        due.is("the 30th has his own credit, not 8", a.rise(0, 29, 8), 4);
        due.is("but 7", a.rise(0, 29, 7), 0);
    }

    private static void promise3WithoutDelay() {
        ClockAuctions a = new ClockAuctions();
        a.lot(0, 1, 0);
        a.buyer(100);
        a.start(0, 100, 1);
        a.press(0, 1);
        due.is("not at 0", a.press(0, 1), false);
        due.is("0 is earlier than 1", a.press(0, 0), true);
    }

    private static void promise11Index() {
        ClockAuctions a = new ClockAuctions();
        a.lot(0, 3, 0);
        a.lot(0, 4, 0);
        for (int lot : Edges.noneOf(2)) {
            due.is("left(" + lot + ")", a.left(lot), -1);
        }
        due.is("left(0)", a.left(0), 3);
        due.is("left(1)", a.left(1), 4);
    }

    private static void promise11EachState() {
        ClockAuctions a = EachState.hall();
        for (int lot = 0; lot < EachState.LOTS; lot++) {
            long want = lot == EachState.PARTED ? 4 : lot == EachState.OTHERS_OF_PART ? 6 : 10;
            due.is("left of " + EachState.NAMES[lot], a.left(lot), want);
        }
        due.is("behind the last", a.left(EachState.LOTS), -1);
    }

    private static void promise11LeastAndGreatest() {
        ClockAuctions a = new ClockAuctions();
        a.lot(0, 1000000000L, 0);
        a.buyer(0);
        a.start(0, 0, 1);
        a.press(0, 0);
        a.tick(1);
        due.is("all before a part", a.left(0), 1000000000L);
        a.part(0, 1);
        due.is("the one that was taken", a.left(0), 1);
        due.is("the others", a.left(1), 999999999L);
    }

    private static ClockAuctions lotsOfGrams(long... grams) {
        ClockAuctions a = new ClockAuctions();
        for (long g : grams) {
            a.lot(5, g, 0);
        }
        return a;
    }

    private static void promise26K() {
        ClockAuctions a = lotsOfGrams(1, 2, 3);
        for (int k : Edges.noneOf(3)) {
            due.is("order(5, " + k + ")", a.order(5, k), -1);
        }
        due.is("the first", a.order(5, 0), 2);
        due.is("the second", a.order(5, 1), 1);
        due.is("the last", a.order(5, 2), 0);
    }

    private static void promise26Kind() {
        ClockAuctions a = lotsOfGrams(1);
        a.lot(0, 1, 0);
        a.lot(9, 1, 0);
        for (int kind : new int[] {-1, 1, 4, 6, 8, 10, MIN, MAX}) {
            due.is("order(" + kind + ", 0)", a.order(kind, 0), -1);
        }
        due.is("kind 0", a.order(0, 0), 1);
        due.is("kind 0 has no other", a.order(0, 1), -1);
        due.is("kind 5", a.order(5, 0), 0);
        due.is("kind 9", a.order(9, 0), 2);
    }

    private static void promise26SameGrams() {
        ClockAuctions a = lotsOfGrams(7, 7, 7);
        for (int k = 0; k < 3; k++) {
            due.is("order(5, " + k + ")", a.order(5, k), k);
        }
    }

    private static void promise26GramsOneApart() {
        ClockAuctions a = lotsOfGrams(999999998L, 1000000000L, 999999999L, 1, 2);
        int[] want = {1, 2, 0, 4, 3};
        for (int k = 0; k < want.length; k++) {
            due.is("order(5, " + k + ")", a.order(5, k), want[k]);
        }
    }

    private static void promise26EachState() {
        ClockAuctions a = EachState.hall();
        int[][] open = {{EachState.OPEN}, {EachState.OPEN_AGAIN}, {}, {EachState.OTHERS_OF_PART}, {}, {}, {}, {}, {}, {}};
        for (int kind = 0; kind < open.length; kind++) {
            for (int k = 0; k < 2; k++) {
                int want = k < open[kind].length ? open[kind][k] : -1;
                due.is("order(" + kind + ", " + k + ")", a.order(kind, k), want);
            }
        }
    }

    private static void promise26SixtyLots() {
        ClockAuctions a = new ClockAuctions();
        for (int i = 0; i < 60; i++) {
            a.lot(5, 1 + i / 2, 0);
        }
        for (int k = 0; k < 60; k++) {
            due.is("order(5, " + k + ")", a.order(5, k), 58 - k + k % 2 * 2);
        }
        due.is("order(5, 60)", a.order(5, 60), -1);
    }

    private static void promise26GramsThatWereTaken() {
        ClockAuctions a = lotsOfGrams(10, 6, 7);
        a.buyer(0);
        a.start(0, 0, 1);
        a.press(0, 0);
        a.tick(1);
        a.part(0, 4);
        due.is("7 grams", a.order(5, 0), 2);
        due.is("6 grams", a.order(5, 1), 1);
        due.is("the 6 others of a part", a.order(5, 2), 3);
        due.is("what was taken is SOLD", a.order(5, 3), -1);
    }
}
