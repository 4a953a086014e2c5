/** Edges of promises 15 (bid), 16 (on), 17 (sets), 18 (wins), 19 (sum) and 20 (proved). */
public final class SetEdgesTest {
    private static final Due due = new Due();

    public static void main(String[] args) {
        promise15Index();
        promise15Cents();
        promise15LastOfEighteen();
        promise15RefusedIsNoneOfThem();
        promise16Index();
        promise16ItHasThat();
        promise16EachState();
        promise16RefusedIsNotItsLot();
        promise16SixtyLots();
        promise16LotsAreNotMixed();
        promise17NoBids();
        promise17PowersOfTwo();
        promise17FarNodes();
        promise17RefusedKeepsTheBids();
        promise17BidsAreGone();
        promise17BidWithoutLots();
        promise17SumOfTheReserves();
        promise17LotsThatAreNotOpenAnyMore();
        promise17OpenAgainIsOpen();
        promise17LotsInCommon();
        promise17NotAboveFree();
        promise17TogetherNotAboveFree();
        promise17GreatestSum();
        promise17FewestBids();
        promise17BidsOf0();
        promise17LesserBid();
        promise17NoneIsGood();
        promise17EighteenWin();
        promise17Records();
        promise18Index();
        promise18Before();
        promise18NumberThen();
        promise19Sums();
        promise20Proved();
        due.end();
    }

    /** So many lots with a reserve of 0, and buyers with the credits. */
    private static ClockAuctions hall(int lots, long... credits) {
        ClockAuctions a = new ClockAuctions();
        for (int i = 0; i < lots; i++) {
            a.lot(0, 1, 0);
        }
        for (long credit : credits) {
            a.buyer(credit);
        }
        return a;
    }

    private static void bidOn(ClockAuctions a, int buyer, long cents, int... lots) {
        int bid = a.bid(buyer, cents);
        for (int lot : lots) {
            due.is("on(" + bid + ", " + lot + ")", a.on(bid, lot), true);
        }
    }

    private static void winners(String name, ClockAuctions a, String want) {
        StringBuilder got = new StringBuilder();
        for (int bid = 0; bid < want.length(); bid++) {
            got.append(a.wins(bid) ? 'W' : '-');
        }
        due.holds(name + ": winners are " + got + ", due is " + want, got.toString().equals(want));
    }

    private static void promise15Index() {
        ClockAuctions a = hall(1, 10, 10);
        for (int buyer : Edges.noneOf(2)) {
            due.is("bid(" + buyer + ", 5)", a.bid(buyer, 5), -1);
        }
        due.is("the last buyer", a.bid(1, 5), 0);
        due.is("the first buyer", a.bid(0, 5), 1);
    }

    private static void promise15Cents() {
        ClockAuctions a = hall(1, 10);
        for (long cents : Edges.outside(0, 1000000000000L)) {
            due.is("bid(0, " + cents + ")", a.bid(0, cents), -1);
        }
        due.is("no bid came", a.sets(Long.MAX_VALUE), -1);
        due.is("0", a.bid(0, 0), 0);
        due.is("10^12, far above his credit", a.bid(0, 1000000000000L), 1);
    }

    private static void promise15LastOfEighteen() {
        ClockAuctions a = hall(1, 10);
        for (int i = 0; i < 17; i++) {
            due.is("bid " + i, a.bid(0, 0), i);
        }
        due.is("the 18th", a.bid(0, 7), 17);
        due.is("the 19th", a.bid(0, 8), -1);
        due.is("nor one of 0", a.bid(0, 0), -1);
        a.on(17, 0);
        due.is("there is no bid 18", a.on(18, 0), false);
        due.is("the 18th wins", a.sets(1 << 18), 1);
        due.is("with its own cents", a.sum(), 7);
        due.is("numbers begin anew", a.bid(0, 0), 0);
    }

    private static void promise15RefusedIsNoneOfThem() {
        ClockAuctions a = hall(1, 10);
        a.bid(0, 1);
        a.bid(1, 1);
        a.bid(-1, 1);
        a.bid(0, -1);
        due.is("2 bids want 4", a.bid(0, 2), 1);
        due.is("no bid 2", a.on(2, 0), false);
        due.is("4", a.sets(4), 0);
    }

    private static void promise16Index() {
        ClockAuctions a = hall(3, 10);
        a.bid(0, 1);
        a.bid(0, 1);
        for (int bid : Edges.noneOf(2)) {
            due.is("on(" + bid + ", 0)", a.on(bid, 0), false);
        }
        for (int lot : Edges.noneOf(3)) {
            due.is("on(0, " + lot + ")", a.on(0, lot), false);
        }
        due.is("none of them took hold: no lots", a.sets(4), 0);
        a.bid(0, 1);
        due.is("the first lot", a.on(0, 0), true);
        due.is("the last lot", a.on(0, 2), true);
    }

    private static void promise16ItHasThat() {
        ClockAuctions a = hall(2, 10);
        a.bid(0, 5);
        a.bid(0, 4);
        due.is("for one lot", a.on(0, 1), true);
        due.is("it has that", a.on(0, 1), false);
        due.is("another bid has not", a.on(1, 1), true);
        due.is("it has that too", a.on(1, 1), false);
        due.is("one wins", a.sets(4), 1);
        due.is("it has the lot once", a.record(1, 0), -1);
    }

    private static void promise16EachState() {
        for (int lot = 0; lot < EachState.LOTS; lot++) {
            ClockAuctions a = EachState.hall();
            boolean open = lot == EachState.OPEN || lot == EachState.OPEN_AGAIN || lot == EachState.OTHERS_OF_PART;
            a.bid(0, 100);
            due.is("on(0, " + EachState.NAMES[lot] + ")", a.on(0, lot), open);
            due.is("whether it wins", a.sets(2), open ? 1 : 0);
        }
    }

    private static void promise16RefusedIsNotItsLot() {
        ClockAuctions a = hall(2, 10);
        a.start(1, 0, 1);
        a.bid(0, 5);
        a.bid(0, 4);
        due.is("a lot that is ON", a.on(0, 1), false);
        a.tick(100);
        due.is("an UNSOLD lot", a.on(0, 1), false);
        a.again(1);
        a.on(1, 0);
        due.is("the bid has not got it, though it is OPEN now", a.sets(4), 1);
        winners("the bid without lots", a, "-W");
    }

    private static void promise16SixtyLots() {
        ClockAuctions a = hall(60, 10);
        a.bid(0, 7);
        for (int lot = 59; lot >= 0; lot--) {
            due.is("on(0, " + lot + ")", a.on(0, lot), true);
        }
        due.is("it has lot 59", a.on(0, 59), false);
        due.is("it has lot 0", a.on(0, 0), false);
        due.is("one bid for all 60", a.sets(2), 1);
        for (int lot = 0; lot < 60; lot++) {
            due.is("winner(" + lot + ")", a.winner(lot), 0);
            due.is("price(" + lot + ")", a.price(lot), lot == 0 ? 7 : 0);
        }
        due.is("60 records", a.record(59, 1), 59);
        due.is("no more", a.record(60, 1), -1);
    }

    /** Lots that are 32 apart would be one if a lot's bit were an int's. */
    private static void promise16LotsAreNotMixed() {
        ClockAuctions a = hall(60, 100);
        bidOn(a, 0, 10, 27);
        bidOn(a, 0, 20, 59);
        bidOn(a, 0, 30, 0);
        bidOn(a, 0, 40, 32);
        due.is("no two of them have a lot in common", a.sets(16), 4);
        due.is("price(27)", a.price(27), 10);
        due.is("price(59)", a.price(59), 20);
        due.is("price(0)", a.price(0), 30);
        due.is("price(32)", a.price(32), 40);
        due.is("lot 31 is OPEN", a.winner(31), -1);
    }

    private static void promise17NoBids() {
        for (long nodes : new long[] {0, 1, 2, Long.MAX_VALUE, Long.MIN_VALUE, -1}) {
            due.is("sets(" + nodes + ") without bids", hall(1, 10).sets(nodes), -1);
        }
    }

    private static void promise17PowersOfTwo() {
        ClockAuctions a = hall(1, 10);
        for (int n = 1; n <= 18; n++) {
            for (int i = 0; i < n; i++) {
                a.bid(0, 0);
            }
            long power = 1L << n;
            due.is("2^" + n + " above 2^" + n + " - 1", a.sets(power - 1), -1);
            due.is("2^" + n + " not above 2^" + n, a.sets(power), 0);
        }
    }

    private static void promise17FarNodes() {
        for (long nodes : new long[] {1, 0, -1, -2, Long.MIN_VALUE, Long.MIN_VALUE + 2, Integer.MIN_VALUE}) {
            ClockAuctions a = hall(1, 10);
            a.bid(0, 0);
            due.is("2 above " + nodes, a.sets(nodes), -1);
        }
        for (long nodes : new long[] {2, 3, 1L << 32, (1L << 32) + 1, Long.MAX_VALUE}) {
            ClockAuctions a = hall(1, 10);
            a.bid(0, 0);
            due.is("2 not above " + nodes, a.sets(nodes), 0);
        }
    }

    private static void promise17RefusedKeepsTheBids() {
        ClockAuctions a = hall(2, 10);
        bidOn(a, 0, 4, 0);
        bidOn(a, 0, 5, 1);
        due.is("4 above 3", a.sets(3), -1);
        due.is("nothing is sold", a.winner(0), -1);
        due.is("no record", a.record(0, 0), -1);
        due.is("the bid has its lot", a.on(0, 0), false);
        due.is("the next is bid 2", a.bid(0, 0), 2);
        due.is("both win", a.sets(8), 2);
        due.is("sum()", a.sum(), 9);
    }

    private static void promise17BidsAreGone() {
        ClockAuctions a = hall(3, 10);
        bidOn(a, 0, 5, 0);
        bidOn(a, 0, 4, 0);
        bidOn(a, 0, 3, 1, 2);
        due.is("two win", a.sets(8), 2);
        due.is("all bids are gone", a.sets(8), -1);
        due.is("those that won too", a.on(0, 1), false);
        due.is("and those that did not", a.on(1, 1), false);
        due.is("a new one has the first number", a.bid(0, 1), 0);
        due.is("and no lots", a.sets(2), 0);
        due.is("it is gone though none won", a.sets(2), -1);
    }

    private static void promise17BidWithoutLots() {
        ClockAuctions a = hall(1, 100);
        bidOn(a, 0, 50);
        bidOn(a, 0, 10, 0);
        bidOn(a, 0, 60);
        due.is("it has no lots", a.sets(8), 1);
        winners("without lots", a, "-W-");
        due.is("sum()", a.sum(), 10);
        due.is("held(0)", a.held(0), 10);
    }

    private static ClockAuctions reserves(long... reserves) {
        ClockAuctions a = new ClockAuctions();
        for (long reserve : reserves) {
            a.lot(0, 1, reserve);
        }
        a.buyer(1000000000000L);
        return a;
    }

    private static void promise17SumOfTheReserves() {
        ClockAuctions a = reserves(10, 20, 30);
        bidOn(a, 0, 59, 0, 1, 2);
        due.is("59 for 60", a.sets(2), 0);
        bidOn(a, 0, 60, 0, 1, 2);
        due.is("60 for 60", a.sets(2), 1);
        ClockAuctions b = reserves(10, 20, 30);
        bidOn(b, 0, 39, 0, 2);
        bidOn(b, 0, 20, 1);
        due.is("39 for 40, 20 for 20", b.sets(4), 1);
        winners("39 for 40, 20 for 20", b, "-W");
        ClockAuctions c = reserves(0);
        bidOn(c, 0, 0, 0);
        bidOn(c, 0, 1, 0);
        due.is("1 for 0", c.sets(4), 1);
        winners("1 for 0", c, "-W");
        promise17GreatestReserves();
    }

    private static void promise17GreatestReserves() {
        ClockAuctions a = new ClockAuctions();
        for (int i = 0; i < 60; i++) {
            a.lot(0, 1, 1000000000L);
        }
        a.buyer(1000000000000L);
        a.bid(0, 60000000000L - 1);
        for (int i = 0; i < 60; i++) {
            a.on(0, i);
        }
        due.is("one below 60 * 10^9", a.sets(2), 0);
        a.bid(0, 60000000000L);
        for (int i = 0; i < 60; i++) {
            a.on(0, i);
        }
        due.is("60 * 10^9", a.sets(2), 1);
    }

    private static void promise17LotsThatAreNotOpenAnyMore() {
        for (String state : new String[] {"ON", "OFFERED", "SOLD", "UNSOLD", "BACK"}) {
            ClockAuctions a = hall(3, 100, 100);
            bidOn(a, 0, 50, 0, 1);
            bidOn(a, 0, 10, 2);
            bringTo(a, state);
            due.is("a bid for a lot that is " + state + " now", a.sets(4), 1);
            winners("with a lot that is " + state, a, "-W");
            due.is("its other lot is OPEN", a.order(0, 0), 0);
        }
    }

    private static void bringTo(ClockAuctions a, String state) {
        if (state.equals("OFFERED")) {
            a.rise(1, 1, 5);
        } else if (state.equals("BACK")) {
            a.back(1);
        } else {
            a.start(1, 5, 1);
            if (state.equals("SOLD")) {
                a.press(1, 0);
            }
            if (!state.equals("ON")) {
                a.tick(600);
            }
        }
    }

    private static void promise17OpenAgainIsOpen() {
        ClockAuctions a = reserves(10, 10);
        bidOn(a, 0, 19, 0, 1);
        a.start(1, 10, 1);
        a.tick(100);
        a.again(1);
        due.is("19 for 10 and 9", a.sets(2), 1);
    }

    private static void promise17LotsInCommon() {
        ClockAuctions a = hall(3, 100, 100);
        bidOn(a, 0, 10, 0, 1);
        bidOn(a, 1, 11, 1, 2);
        due.is("one lot in common", a.sets(4), 1);
        winners("one lot in common", a, "-W");
        ClockAuctions b = hall(4, 100, 100);
        bidOn(b, 0, 10, 0, 2);
        bidOn(b, 1, 11, 1, 3);
        due.is("no lot in common", b.sets(4), 2);
        ClockAuctions c = hall(4, 100, 100);
        bidOn(c, 0, 10, 0);
        bidOn(c, 0, 10, 3);
        bidOn(c, 1, 19, 0, 1, 2, 3);
        due.is("the first and the last lot in common", c.sets(8), 2);
        winners("20 is more than 19", c, "WW-");
    }

    private static void promise17NotAboveFree() {
        ClockAuctions a = hall(2, 100);
        bidOn(a, 0, 101, 0);
        due.is("101 of 100", a.sets(2), 0);
        bidOn(a, 0, 100, 0);
        due.is("100 of 100", a.sets(2), 1);
        bidOn(a, 0, 1, 1);
        due.is("1 of 0", a.sets(2), 0);
        bidOn(a, 0, 0, 1);
        bidOn(a, 0, 1, 1);
        due.is("0 of 0 does not win: the fewest bids", a.sets(4), 0);
        ClockAuctions b = hall(2, 100);
        b.rise(0, 0, 40);
        bidOn(b, 0, 61, 1);
        due.is("61 of 60", b.sets(2), 0);
        bidOn(b, 0, 60, 1);
        due.is("60 of 60", b.sets(2), 1);
        due.is("held(0)", b.held(0), 100);
    }

    private static void promise17TogetherNotAboveFree() {
        ClockAuctions a = hall(4, 100, 30);
        bidOn(a, 0, 60, 0);
        bidOn(a, 0, 41, 1);
        bidOn(a, 1, 30, 2);
        due.is("101 of 100, and 30 of 30", a.sets(8), 2);
        winners("101 of 100, and 30 of 30", a, "W-W");
        ClockAuctions b = hall(4, 100, 30);
        bidOn(b, 0, 60, 0);
        bidOn(b, 0, 40, 1);
        bidOn(b, 1, 30, 2);
        bidOn(b, 1, 1, 3);
        due.is("100 of 100, and 30 of 30", b.sets(16), 3);
        winners("100 of 100, and 30 of 30", b, "WWW-");
        ClockAuctions c = hall(4, 100, 100);
        bidOn(c, 0, 60, 0);
        bidOn(c, 1, 60, 1);
        due.is("each has his own", c.sets(4), 2);
        due.is("held(0)", c.held(0), 60);
        due.is("held(1)", c.held(1), 60);
    }

    private static void promise17GreatestSum() {
        ClockAuctions a = hall(3, 100);
        bidOn(a, 0, 30, 0);
        bidOn(a, 0, 30, 1);
        bidOn(a, 0, 30, 2);
        bidOn(a, 0, 89, 0, 1, 2);
        due.is("90 is more than 89, though of more bids", a.sets(16), 3);
        winners("90 against 89", a, "WWW-");
        ClockAuctions b = hall(3, 100);
        bidOn(b, 0, 30, 0);
        bidOn(b, 0, 30, 1);
        bidOn(b, 0, 30, 2);
        bidOn(b, 0, 91, 0, 1, 2);
        due.is("91 is more than 90", b.sets(16), 1);
        winners("91 against 90", b, "---W");
        ClockAuctions c = hall(18, 1000000000000L);
        bidOn(c, 0, 999999999999L, 0);
        bidOn(c, 0, 1000000000000L, 1);
        bidOn(c, 0, 1, 2);
        due.is("10^12 alone against 10^12 of two", c.sets(8), 1);
        winners("10^12", c, "-W-");
    }

    private static void promise17FewestBids() {
        ClockAuctions a = hall(3, 100);
        bidOn(a, 0, 30, 0);
        bidOn(a, 0, 30, 1);
        bidOn(a, 0, 30, 2);
        bidOn(a, 0, 60, 0, 1);
        due.is("90 by two, not by three", a.sets(16), 2);
        winners("90 by two", a, "--WW");
        ClockAuctions b = hall(3, 100);
        bidOn(b, 0, 30, 0);
        bidOn(b, 0, 30, 1);
        bidOn(b, 0, 30, 2);
        bidOn(b, 0, 60, 1, 2);
        bidOn(b, 0, 90, 0, 1, 2);
        due.is("90 by one, not by two", b.sets(32), 1);
        winners("90 by one", b, "----W");
    }

    private static void promise17BidsOf0() {
        ClockAuctions a = hall(2, 100);
        bidOn(a, 0, 0, 0);
        bidOn(a, 0, 5, 1);
        due.is("a bid of 0 only adds to their number", a.sets(4), 1);
        winners("a bid of 0", a, "-W");
        due.is("its lot is OPEN", a.order(0, 0), 0);
        due.is("no record of it", a.record(1, 0), -1);
    }

    private static void promise17LesserBid() {
        ClockAuctions a = hall(2, 100);
        bidOn(a, 0, 10, 0);
        bidOn(a, 0, 10, 0);
        due.is("the lesser of two", a.sets(4), 1);
        winners("the lesser of two", a, "W-");
        ClockAuctions b = hall(4, 1000);
        bidOn(b, 0, 10, 0, 1);
        bidOn(b, 0, 20, 0, 2);
        bidOn(b, 0, 20, 1, 3);
        bidOn(b, 0, 30, 2, 3);
        due.is("0 and 3 against 1 and 2", b.sets(16), 2);
        winners("0 is the lesser where they differ first", b, "W--W");
        ClockAuctions c = hall(4, 1000);
        bidOn(c, 0, 5, 3);
        bidOn(c, 0, 10, 0);
        bidOn(c, 0, 10, 1);
        bidOn(c, 0, 10, 0);
        bidOn(c, 0, 10, 1);
        due.is("they differ behind the first", c.sets(32), 3);
        winners("they differ behind the first", c, "WWW--");
        ClockAuctions d = hall(1, 1000);
        for (int i = 0; i < 18; i++) {
            bidOn(d, 0, i < 4 ? 9 : 10, 0);
        }
        due.is("one of 18", d.sets(1 << 18), 1);
        winners("the least of the greatest", d, "----W-------------");
    }

    private static void promise17NoneIsGood() {
        ClockAuctions a = hall(1, 10);
        bidOn(a, 0, 11, 0);
        due.is("none can be paid", a.sets(2), 0);
        due.is("sum()", a.sum(), 0);
        due.is("wins(0)", a.wins(0), false);
        due.is("proved()", a.proved(), true);
        due.is("the lot is OPEN", a.order(0, 0), 0);
        due.is("nothing is held", a.held(0), 0);
    }

    private static void promise17EighteenWin() {
        ClockAuctions a = hall(18, 171);
        for (int i = 0; i < 18; i++) {
            bidOn(a, 0, 1 + i, 17 - i);
        }
        due.is("all 18", a.sets(1 << 18), 18);
        winners("all 18", a, "WWWWWWWWWWWWWWWWWW");
        due.is("sum()", a.sum(), 171);
        due.is("held(0)", a.held(0), 171);
        due.is("bid 17 is for lot 0", a.price(0), 18);
        due.is("the lesser bid is told first", a.record(0, 1), 17);
        due.is("the greatest last", a.record(17, 1), 0);
    }

    private static void promise17Records() {
        ClockAuctions a = hall(4, 100, 100);
        bidOn(a, 1, 20, 3, 0);
        bidOn(a, 0, 30, 2, 1);
        a.sets(4);
        int[] lots = {0, 3, 1, 2};
        long[] prices = {20, 0, 30, 0};
        for (int k = 0; k < 4; k++) {
            due.is("sort", a.record(k, 0), 4);
            due.is("lot: the lesser bid first, in it the least lot", a.record(k, 1), lots[k]);
            due.is("buyer", a.record(k, 2), k < 2 ? 1 : 0);
            due.is("price", a.record(k, 3), prices[k]);
        }
        due.is("no more", a.record(4, 0), -1);
    }

    private static void promise18Index() {
        ClockAuctions a = hall(18, 1000);
        for (int i = 0; i < 18; i++) {
            bidOn(a, 0, 1, i);
        }
        a.sets(1 << 18);
        for (int bid : Edges.noneOf(18)) {
            due.is("wins(" + bid + ")", a.wins(bid), false);
        }
        for (int bid : new int[] {31, 32, 33, 49, 63, 64, 65, -32, -64, -18}) {
            due.is("wins(" + bid + ")", a.wins(bid), false);
        }
        due.is("the first", a.wins(0), true);
        due.is("the last", a.wins(17), true);
    }

    private static void promise18Before() {
        ClockAuctions a = hall(1, 10);
        due.is("before any sets()", a.wins(0), false);
        bidOn(a, 0, 5, 0);
        due.is("a bid alone does not win", a.wins(0), false);
        a.sets(1);
        due.is("nor does a refused sets()", a.wins(0), false);
        a.sets(2);
        due.is("one that was not", a.wins(0), true);
    }

    private static void promise18NumberThen() {
        ClockAuctions a = hall(3, 100);
        bidOn(a, 0, 5, 0);
        bidOn(a, 0, 6, 0);
        bidOn(a, 0, 7, 1);
        a.sets(8);
        winners("the latest", a, "-WW");
        bidOn(a, 0, 9, 2);
        winners("new bids have the numbers, but not the answer", a, "-WW");
        a.sets(1);
        winners("a refused one does not count", a, "-WW");
        a.sets(2);
        winners("the latest now", a, "W--");
        a.sets(Long.MAX_VALUE);
        winners("refused without bids", a, "W--");
    }

    private static void promise19Sums() {
        ClockAuctions a = hall(18, 1000000000000L, 1000000000000L);
        due.is("before any", a.sum(), 0);
        bidOn(a, 0, 1000000000000L, 0);
        bidOn(a, 1, 1000000000000L, 1);
        due.is("bids alone have none", a.sum(), 0);
        a.sets(3);
        due.is("a refused one has none", a.sum(), 0);
        a.sets(4);
        due.is("2 * 10^12", a.sum(), 2000000000000L);
        a.sets(4);
        due.is("refused: the one before", a.sum(), 2000000000000L);
        a.bid(0, 1);
        a.sets(2);
        due.is("none won", a.sum(), 0);
    }

    private static void promise20Proved() {
        ClockAuctions a = hall(2, 100);
        due.is("before any", a.proved(), false);
        a.sets(Long.MAX_VALUE);
        due.is("refused without bids", a.proved(), false);
        bidOn(a, 0, 5, 0);
        a.sets(1);
        due.is("refused for its nodes", a.proved(), false);
        a.sets(2);
        due.is("not refused", a.proved(), true);
        a.bid(0, 1);
        due.is("what else is called does not matter", a.proved(), true);
        a.sets(1);
        due.is("the latest was refused", a.proved(), false);
        due.is("none wins, but it is not refused", a.sets(2), 0);
        due.is("proved()", a.proved(), true);
        a.sets(2);
        due.is("refused without bids behind it", a.proved(), false);
    }
}
