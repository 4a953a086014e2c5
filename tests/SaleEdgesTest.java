/** Edges of promises 8 (winner), 9 (price), 10 (part), 21 (held), 22 (again), 23 (fee) and 27 (back). */
public final class SaleEdgesTest {
    private static final Due due = new Due();

    public static void main(String[] args) {
        promise8Index();
        promise8EachState();
        promise9Index();
        promise9EachState();
        promise9OfASet();
        promise9Of0();
        promise10Index();
        promise10EachState();
        promise10Grams();
        promise10LeastAndGreatestGrams();
        promise10OneGram();
        promise10Once();
        promise10RefusedIsNotTheOnce();
        promise10PriceRoundedUp();
        promise10ReserveRoundedUp();
        promise10LessenedReserve();
        promise10Sixty();
        promise10KindOfIt();
        promise10FreesMoney();
        promise21Index();
        promise21EachState();
        promise21AllOfTheCredit();
        promise21OffersComeAndGo();
        promise22Index();
        promise22EachState();
        promise22Once();
        promise22RefusedChangesNothing();
        promise22OthersOfAPart();
        promise22Tenth();
        promise23Index();
        promise23EachState();
        promise23Fiftieth();
        promise23Greatest();
        promise27Index();
        promise27EachState();
        promise27ForGood();
        promise27OfferIsFree();
        promise27LotOfABid();
        due.end();
    }

    /** One lot of so many grams with the reserve, sold by the clock to buyer 1 for the price. */
    private static ClockAuctions sold(long grams, long reserve, long price) {
        ClockAuctions a = new ClockAuctions();
        a.lot(3, grams, reserve);
        a.buyer(1000000000000L);
        a.buyer(1000000000000L);
        a.start(0, price, 1000000);
        a.press(1, 0);
        a.tick(1);
        return a;
    }

    private static void promise8Index() {
        ClockAuctions a = EachState.hall();
        for (int lot : Edges.noneOf(EachState.LOTS)) {
            due.is("winner(" + lot + ")", a.winner(lot), -1);
        }
    }

    private static void promise8EachState() {
        ClockAuctions a = EachState.hall();
        int[] want = {-1, -1, 2, 1, 0, 1, 1, -1, -1, -1, -1, -1, -1, 2, -1};
        for (int lot = 0; lot < EachState.LOTS; lot++) {
            due.is("winner of " + EachState.NAMES[lot], a.winner(lot), want[lot]);
        }
    }

    private static void promise9Index() {
        ClockAuctions a = EachState.hall();
        for (int lot : Edges.noneOf(EachState.LOTS)) {
            due.is("price(" + lot + ")", a.price(lot), -1);
        }
    }

    private static void promise9EachState() {
        ClockAuctions a = EachState.hall();
        long[] want = {-1, -1, 400, 150, 300, 500, 0, -1, -1, -1, -1, -1, -1, 80, -1};
        for (int lot = 0; lot < EachState.LOTS; lot++) {
            due.is("price of " + EachState.NAMES[lot], a.price(lot), want[lot]);
        }
    }

    private static void promise9OfASet() {
        ClockAuctions a = new ClockAuctions();
        for (int i = 0; i < 60; i++) {
            a.lot(0, 1, 0);
        }
        a.buyer(1000000000000L);
        a.bid(0, 1000000000000L);
        a.on(0, 59);
        a.on(0, 1);
        a.on(0, 31);
        a.sets(2);
        due.is("the least lot, though it came later", a.price(1), 1000000000000L);
        due.is("another", a.price(31), 0);
        due.is("the last lot, though it came first", a.price(59), 0);
        due.is("a lot that is not in the set", a.price(0), -1);
        due.is("nor is this", a.price(2), -1);
        due.is("the buyer of all", a.winner(59), 0);
    }

    private static void promise9Of0() {
        ClockAuctions a = sold(1, 0, 0);
        due.is("sold for 0", a.price(0), 0);
        due.is("to buyer 1", a.winner(0), 1);
        a.lot(0, 1, 0);
        a.rise(1, 0, 0);
        due.is("an offer of 0", a.price(1), 0);
        due.is("of buyer 0", a.winner(1), 0);
    }

    private static void promise10Index() {
        for (int lot : Edges.noneOf(1)) {
            ClockAuctions a = sold(10, 0, 100);
            due.is("part(" + lot + ", 5)", a.part(lot, 5), -1);
            due.is("no lot was made", a.left(1), -1);
        }
    }

    private static void promise10EachState() {
        for (int lot = 0; lot < EachState.LOTS; lot++) {
            ClockAuctions a = EachState.hall();
            boolean can = lot == EachState.BY_CLOCK;
            long before = a.left(lot);
            long price = a.price(lot);
            due.is("part of " + EachState.NAMES[lot], a.part(lot, 1), can ? EachState.LOTS : -1);
            due.is("left of it", a.left(lot), can ? 1 : before);
            due.is("price of it", a.price(lot), can ? 15 : price);
            due.is("whether a lot was made", a.left(EachState.LOTS), can ? 9 : -1);
            due.is("whether it is told", a.record(EachState.RECORDS, 0), can ? 5 : -1);
        }
    }

    private static void promise10Grams() {
        for (long grams : Edges.outside(1, 9)) {
            ClockAuctions a = sold(10, 50, 100);
            due.is("part(0, " + grams + ")", a.part(0, grams), -1);
            due.is("left(0)", a.left(0), 10);
            due.is("price(0)", a.price(0), 100);
            due.is("held(1)", a.held(1), 100);
            due.is("left(1)", a.left(1), -1);
            due.is("no record", a.record(1, 0), -1);
        }
    }

    private static void promise10LeastAndGreatestGrams() {
        ClockAuctions a = sold(10, 50, 100);
        due.is("part(0, 1)", a.part(0, 1), 1);
        due.is("left(0)", a.left(0), 1);
        due.is("left(1)", a.left(1), 9);
        due.is("price(0)", a.price(0), 10);
        ClockAuctions b = sold(10, 50, 100);
        due.is("part(0, 9)", b.part(0, 9), 1);
        due.is("left(0)", b.left(0), 9);
        due.is("left(1)", b.left(1), 1);
        due.is("price(0)", b.price(0), 90);
        ClockAuctions c = sold(1000000000L, 1000000000L, 1000000000L);
        due.is("all but one of 10^9 grams", c.part(0, 999999999L), 1);
        due.is("price(0)", c.price(0), 999999999L);
        due.is("left(1)", c.left(1), 1);
        due.is("the reserve of one gram is not 0", c.rise(1, 0, 0), 3);
        due.is("it is 1", c.rise(1, 0, 1), 0);
        ClockAuctions d = sold(1000000000L, 1000000000L, 1000000000L);
        due.is("one of 10^9 grams", d.part(0, 1), 1);
        due.is("price(0)", d.price(0), 1);
        due.is("the reserve is not 999999998", d.rise(1, 0, 999999998L), 3);
        due.is("it is 999999999", d.rise(1, 0, 999999999L), 0);
    }

    private static void promise10OneGram() {
        ClockAuctions a = sold(1, 0, 100);
        due.is("one gram has no part: 1", a.part(0, 1), -1);
        due.is("one gram has no part: 0", a.part(0, 0), -1);
        ClockAuctions b = sold(2, 0, 100);
        due.is("two grams: 2", b.part(0, 2), -1);
        due.is("two grams: 1", b.part(0, 1), 1);
    }

    private static void promise10Once() {
        ClockAuctions a = sold(10, 50, 100);
        a.part(0, 5);
        due.is("a part was left before", a.part(0, 2), -1);
        due.is("left(0)", a.left(0), 5);
        due.is("price(0)", a.price(0), 50);
        due.is("left(2)", a.left(2), -1);
        due.is("record 2", a.record(2, 0), -1);
        a.start(1, 50, 1);
        a.press(0, 0);
        a.tick(1);
        due.is("the others are a lot of their own", a.part(1, 2), 2);
        due.is("but once too", a.part(1, 1), -1);
    }

    private static void promise10RefusedIsNotTheOnce() {
        ClockAuctions a = sold(10, 50, 100);
        a.part(0, 0);
        a.part(0, 10);
        a.part(0, -1);
        due.is("what was refused was not the once", a.part(0, 5), 1);
    }

    private static void promise10PriceRoundedUp() {
        long[][] cases = {
            {7, 100, 3, 43}, {7, 7, 3, 3}, {7, 8, 3, 4}, {7, 6, 3, 3}, {10, 0, 5, 0}, {10, 1, 1, 1}, {10, 1, 9, 1},
            {10, 10, 1, 1}, {10, 11, 1, 2}, {1000000000L, 1, 1, 1}, {1000000000L, 999999999L, 999999999L, 999999999L},
            {3, 1000000000L, 1, 333333334L}, {3, 1000000000L, 2, 666666667L}};
        for (long[] c : cases) {
            ClockAuctions a = sold(c[0], 0, c[1]);
            a.part(0, c[2]);
            due.is(c[1] + " * " + c[2] + " / " + c[0], a.price(0), c[3]);
            due.is("held(1)", a.held(1), c[3]);
            due.is("record 1 tells it", a.record(1, 3), c[3] % 1000000000L);
        }
    }

    private static void promise10ReserveRoundedUp() {
        long[][] cases = {
            {7, 100, 3, 58}, {7, 7, 3, 4}, {7, 8, 3, 5}, {10, 0, 5, 0}, {10, 1, 9, 1}, {10, 10, 9, 1}, {10, 11, 9, 2},
            {1000000000L, 1, 999999999L, 1}, {3, 1000000000L, 2, 333333334L}, {3, 1000000000L, 1, 666666667L}};
        for (long[] c : cases) {
            ClockAuctions a = sold(c[0], c[1], 1000000000L);
            a.part(0, c[2]);
            String what = c[1] + " * " + (c[0] - c[2]) + " / " + c[0];
            due.is("below " + what, a.rise(1, 0, c[3] - 1), 3);
            due.is("at " + what, a.rise(1, 0, c[3]), 0);
        }
    }

    private static void promise10LessenedReserve() {
        ClockAuctions a = new ClockAuctions();
        a.lot(3, 10, 100);
        a.buyer(1000);
        a.start(0, 100, 1);
        a.tick(100);
        a.again(0);
        a.start(0, 90, 1);
        a.press(0, 0);
        a.tick(1);
        a.part(0, 4);
        due.is("a reserve of 90 was parted: 53", a.rise(1, 0, 53), 3);
        due.is("54", a.rise(1, 0, 54), 0);
    }

    private static void promise10Sixty() {
        ClockAuctions a = sold(10, 50, 100);
        for (int i = 1; i < 60; i++) {
            a.lot(0, 1, 0);
        }
        due.is("there are 60 lots", a.part(0, 5), -1);
        due.is("left(0)", a.left(0), 10);
        due.is("price(0)", a.price(0), 100);
        due.is("held(1)", a.held(1), 100);
        due.is("no record", a.record(1, 0), -1);
        ClockAuctions b = sold(10, 50, 100);
        for (int i = 1; i < 59; i++) {
            b.lot(0, 1, 0);
        }
        due.is("there are 59 lots", b.part(0, 5), 59);
    }

    private static void promise10KindOfIt() {
        for (int kind : new int[] {0, 9}) {
            ClockAuctions a = new ClockAuctions();
            a.lot(kind, 10, 0);
            a.buyer(10);
            a.start(0, 5, 1);
            a.press(0, 0);
            a.tick(1);
            a.part(0, 4);
            due.is("the others are OPEN, of kind " + kind, a.order(kind, 0), 1);
            due.is("alone", a.order(kind, 1), -1);
            due.is("of no other kind", a.order(9 - kind, 0), -1);
        }
    }

    private static void promise10FreesMoney() {
        ClockAuctions a = new ClockAuctions();
        a.lot(0, 10, 0);
        a.buyer(100);
        a.start(0, 100, 1);
        a.press(0, 0);
        a.tick(1);
        due.is("nothing is FREE", a.bid(0, 1), 0);
        a.lot(0, 1, 0);
        due.is("not 1", a.rise(1, 0, 1), 4);
        a.part(0, 3);
        due.is("not 71", a.rise(1, 0, 71), 4);
        due.is("70", a.rise(1, 0, 70), 0);
    }

    private static void promise21Index() {
        ClockAuctions a = EachState.hall();
        for (int buyer : Edges.noneOf(EachState.BUYERS)) {
            due.is("held(" + buyer + ")", a.held(buyer), -1);
        }
    }

    private static void promise21EachState() {
        ClockAuctions a = EachState.hall();
        due.is("sold by offers; what is BACK is free", a.held(0), 300);
        due.is("sold by the clock, and in a set", a.held(1), 150 + 500);
        due.is("a part, and an offer", a.held(2), 80 + 400);
    }

    private static void promise21AllOfTheCredit() {
        ClockAuctions a = new ClockAuctions();
        a.lot(0, 1, 0);
        a.lot(0, 1, 0);
        a.buyer(1000000000000L);
        a.buyer(0);
        due.is("nothing", a.held(0), 0);
        a.rise(0, 0, 1000000000000L);
        due.is("all", a.held(0), 1000000000000L);
        due.is("no more", a.rise(1, 0, 1), 4);
        due.is("of no credit", a.held(1), 0);
        a.rise(1, 1, 0);
        due.is("0 for an offer of 0", a.held(1), 0);
    }

    private static void promise21OffersComeAndGo() {
        ClockAuctions a = new ClockAuctions();
        a.lot(0, 1, 0);
        a.lot(0, 1, 0);
        a.buyer(100);
        a.buyer(200);
        a.rise(0, 0, 60);
        a.rise(1, 0, 40);
        due.is("offers on two lots", a.held(0), 100);
        a.rise(0, 0, 63);
        due.is("his own offer counts once", a.held(0), 100);
        a.rise(0, 1, 63);
        due.is("one is taken by another", a.held(0), 40);
        due.is("who holds it", a.held(1), 63);
        a.rise(0, 1, 100);
        due.is("he raised himself", a.held(1), 100);
        a.tick(10000);
        due.is("SOLD is held as OFFERED was", a.held(0), 40);
        due.is("of the other too", a.held(1), 100);
    }

    private static void promise22Index() {
        for (int lot : Edges.noneOf(EachState.LOTS)) {
            due.is("again(" + lot + ")", EachState.hall().again(lot), -1);
        }
    }

    private static void promise22EachState() {
        for (int lot = 0; lot < EachState.LOTS; lot++) {
            ClockAuctions a = EachState.hall();
            boolean can = lot == EachState.UNSOLD;
            due.is("again of " + EachState.NAMES[lot], a.again(lot), can ? 1 : -1);
            due.is("whether it is told", a.record(EachState.RECORDS, 0), can ? 6 : -1);
            due.is("then it is OPEN", a.order(lot % 10, 0) == lot, can || isOpenAlone(lot));
            due.is("once", a.again(lot), -1);
        }
    }

    private static boolean isOpenAlone(int lot) {
        return lot == EachState.OPEN || lot == EachState.OPEN_AGAIN;
    }

    private static void promise22Once() {
        ClockAuctions a = new ClockAuctions();
        a.lot(0, 1, 100);
        a.start(0, 100, 1);
        a.tick(100);
        due.is("the first time", a.again(0), 1);
        a.start(0, 90, 1);
        a.tick(100);
        due.is("it was open again before", a.again(0), -1);
        due.is("UNSOLD", a.start(0, 90, 1), -1);
        due.is("no record", a.record(3, 0), -1);
    }

    private static void promise22RefusedChangesNothing() {
        ClockAuctions a = new ClockAuctions();
        a.lot(0, 1, 100);
        a.buyer(1000);
        a.again(0);
        due.is("an OPEN lot keeps its reserve", a.rise(0, 0, 99), 3);
        a.start(0, 100, 1);
        a.again(0);
        a.tick(100);
        due.is("what was refused was not the once", a.again(0), 1);
        a.again(0);
        due.is("less one tenth alone: 89", a.rise(0, 0, 89), 3);
        due.is("90", a.rise(0, 0, 90), 0);
    }

    /** They are a new lot, whatever became of the lot that they were of. */
    private static void promise22OthersOfAPart() {
        ClockAuctions a = new ClockAuctions();
        a.lot(3, 10, 100);
        a.buyer(1000);
        a.start(0, 100, 1);
        a.tick(100);
        a.again(0);
        a.start(0, 100, 1);
        a.press(0, 0);
        a.tick(1);
        due.is("of a lot that was open again before", a.part(0, 5), 1);
        a.start(1, 45, 1);
        a.tick(100);
        due.is("they can be open again", a.again(1), 1);
        due.is("for 45 less 4: 40", a.rise(1, 0, 40), 3);
        due.is("41", a.start(1, 41, 1), 100);
        a.tick(100);
        due.is("once", a.again(1), -1);
    }

    private static void promise22Tenth() {
        long[][] cases = {
            {0, 0}, {1, 1}, {9, 9}, {10, 9}, {11, 10}, {19, 18}, {20, 18}, {99, 90}, {100, 90}, {999999999L, 900000000L},
            {1000000000L, 900000000L}};
        for (long[] c : cases) {
            ClockAuctions a = new ClockAuctions();
            a.lot(0, 1, c[0]);
            a.buyer(1000000000L);
            a.start(0, c[0], 1);
            a.tick(100);
            a.again(0);
            due.is("below the reserve of " + c[0] + " less a tenth", a.rise(0, 0, c[1] - 1), 3);
            due.is("at it", a.rise(0, 0, c[1]), 0);
            due.is("the record tells it", a.record(1, 3), c[1]);
        }
    }

    private static void promise23Index() {
        ClockAuctions a = EachState.hall();
        for (int lot : Edges.noneOf(EachState.LOTS)) {
            due.is("fee(" + lot + ")", a.fee(lot), -1);
        }
    }

    private static void promise23EachState() {
        ClockAuctions a = EachState.hall();
        long[] want = {-1, -1, -1, 33, 36, 40, 30, -1, -1, -1, -1, -1, -1, 32, -1};
        for (int lot = 0; lot < EachState.LOTS; lot++) {
            due.is("fee of " + EachState.NAMES[lot], a.fee(lot), want[lot]);
        }
    }

    private static void promise23Fiftieth() {
        long[][] cases = {
            {0, 30}, {1, 31}, {49, 31}, {50, 31}, {51, 32}, {99, 32}, {100, 32}, {101, 33}, {999999950L, 20000029L},
            {999999951L, 20000030L}, {1000000000L, 20000030L}};
        for (long[] c : cases) {
            due.is("the fee for " + c[0], sold(1, 0, c[0]).fee(0), c[1]);
        }
    }

    private static void promise23Greatest() {
        ClockAuctions a = new ClockAuctions();
        a.lot(0, 1, 0);
        a.buyer(1000000000000L);
        a.rise(0, 0, 1000000000000L);
        due.is("OFFERED has none", a.fee(0), -1);
        a.tick(9999);
        due.is("nor 9999 later", a.fee(0), -1);
        a.tick(1);
        due.is("SOLD for 10^12", a.fee(0), 20000000030L);
    }

    private static void promise27Index() {
        for (int lot : Edges.noneOf(EachState.LOTS)) {
            ClockAuctions a = EachState.hall();
            due.is("back(" + lot + ")", a.back(lot), -1);
            due.is("no record", a.record(EachState.RECORDS, 0), -1);
        }
    }

    private static void promise27EachState() {
        int[] want = {1, -1, 1, -1, -1, -1, -1, 1, -1, -1, -1, 1, 1, -1, 1};
        for (int lot = 0; lot < EachState.LOTS; lot++) {
            ClockAuctions a = EachState.hall();
            long fee = a.fee(lot);
            int winner = a.winner(lot);
            due.is("back of " + EachState.NAMES[lot], a.back(lot), want[lot]);
            due.is("whether it is told", a.record(EachState.RECORDS, 0), want[lot] == 1 ? 7 : -1);
            due.is("fee of it", a.fee(lot), fee);
            due.is("winner of it", a.winner(lot), want[lot] == 1 ? -1 : winner);
            due.is("once", a.back(lot), -1);
            due.is("the lot that is ON", a.clock(), 1000);
        }
    }

    private static void promise27ForGood() {
        ClockAuctions a = new ClockAuctions();
        a.lot(0, 1, 0);
        a.buyer(10);
        a.bid(0, 5);
        a.back(0);
        due.is("start", a.start(0, 0, 1), -1);
        due.is("rise", a.rise(0, 0, 5), 2);
        due.is("on", a.on(0, 0), false);
        due.is("again", a.again(0), -1);
        due.is("part", a.part(0, 1), -1);
        due.is("order", a.order(0, 0), -1);
        due.is("left", a.left(0), 1);
        due.is("one record", a.record(1, 0), -1);
    }

    private static void promise27OfferIsFree() {
        ClockAuctions a = new ClockAuctions();
        a.lot(0, 1, 0);
        a.lot(0, 1, 0);
        a.buyer(100);
        a.rise(0, 0, 100);
        due.is("nothing is FREE", a.rise(1, 0, 1), 4);
        a.back(0);
        due.is("held(0)", a.held(0), 0);
        due.is("not more than all is FREE", a.rise(1, 0, 101), 4);
        due.is("all is FREE", a.rise(1, 0, 100), 0);
        a.tick(10000);
        due.is("what is BACK is not sold to him", a.held(0), 100);
        due.is("one was sold", a.record(1, 1), 1);
        due.is("one alone", a.record(2, 0), -1);
    }

    private static void promise27LotOfABid() {
        ClockAuctions a = new ClockAuctions();
        a.lot(0, 1, 0);
        a.lot(0, 1, 0);
        a.buyer(100);
        a.bid(0, 50);
        a.on(0, 0);
        a.on(0, 1);
        a.back(1);
        due.is("its bid is not good any more", a.sets(2), 0);
        due.is("its other lot is OPEN", a.order(0, 0), 0);
    }
}
