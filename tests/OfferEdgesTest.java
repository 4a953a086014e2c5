/** Edges of promise 14 (rise), and of what the Terms say of OFFERS. */
public final class OfferEdgesTest {
    private static final Due due = new Due();

    public static void main(String[] args) {
        promise14Index();
        promise14EachState();
        promise14Order();
        promise14Reserve();
        promise14ReserveOf0();
        promise14GreatestReserve();
        promise14Twentieth();
        promise14TwentiethOfHisOwn();
        promise14NoTwentiethOfTheReserve();
        promise14Free();
        promise14FreeWithHisOwn();
        promise14NotWithAnothers();
        promise14NotWithHisOwnOnAnotherLot();
        promise14FarTooMuch();
        promise14RefusedChangesNothing();
        promise14MoneyIsFreeAgain();
        termsTenSeconds();
        termsTenSecondsAtOnce();
        termsTimeOfTheLastOffer();
        termsRefusedIsNotTheLast();
        termsDayNotClock();
        termsLeastLotFirst();
        termsBehindTheClock();
        termsBehindTheClocksUnsold();
        termsMoneyOfAnOfferIsHeldForTheClock();
        termsSoldOnce();
        termsTakenBackInTime();
        due.end();
    }

    /** Lots 0 and 1 with the reserve, buyer 0 with 1000, buyer 1 with 10^12. */
    private static ClockAuctions hall(long reserve) {
        ClockAuctions a = new ClockAuctions();
        a.lot(0, 1, reserve);
        a.lot(0, 1, reserve);
        a.buyer(1000);
        a.buyer(1000000000000L);
        return a;
    }

    private static void promise14Index() {
        for (int none : Edges.noneOf(2)) {
            ClockAuctions a = hall(10);
            due.is("rise(" + none + ", 0, 10)", a.rise(none, 0, 10), 1);
            due.is("rise(0, " + none + ", 10)", a.rise(0, none, 10), 1);
            due.is("rise(" + none + ", " + none + ", 10)", a.rise(none, none, 10), 1);
            due.is("no offer", a.price(0), -1);
        }
        ClockAuctions a = hall(10);
        due.is("the first lot, the last buyer", a.rise(0, 1, 10), 0);
        due.is("the last lot, the first buyer", a.rise(1, 0, 10), 0);
    }

    private static void promise14EachState() {
        int[] want = {0, 2, 0, 2, 2, 2, 2, 2, 2, 2, 2, 0, 2, 2, 0};
        for (int lot = 0; lot < EachState.LOTS; lot++) {
            ClockAuctions a = EachState.hall();
            int winner = a.winner(lot);
            long price = a.price(lot);
            due.is("rise of " + EachState.NAMES[lot], a.rise(lot, 1, 500), want[lot]);
            due.is("winner of it", a.winner(lot), want[lot] == 0 ? 1 : winner);
            due.is("price of it", a.price(lot), want[lot] == 0 ? 500 : price);
        }
    }

    private static void promise14Order() {
        ClockAuctions a = hall(10);
        a.back(0);
        due.is("1 before 2, by the buyer", a.rise(0, 2, 10), 1);
        due.is("1 before 3, by the lot", a.rise(2, 0, 9), 1);
        due.is("1 before 3, by the buyer", a.rise(1, -1, 9), 1);
        due.is("1 before 4, by the lot", a.rise(-1, 0, 1001), 1);
        due.is("2 before 3", a.rise(0, 0, 9), 2);
        due.is("2 before 4", a.rise(0, 0, 1001), 2);
        ClockAuctions b = hall(5000);
        due.is("3 before 4: 1001 is below the reserve and above what is FREE", b.rise(0, 0, 1001), 3);
        b.rise(0, 1, 10000);
        due.is("3 before 4: below a twentieth more", b.rise(0, 0, 10499), 3);
        due.is("4 alone", b.rise(0, 0, 10500), 4);
    }

    private static void promise14Reserve() {
        ClockAuctions a = hall(100);
        due.is("99", a.rise(0, 0, 99), 3);
        due.is("no offer", a.winner(0), -1);
        due.is("0", a.rise(0, 0, 0), 3);
        due.is("-100", a.rise(0, 0, -100), 3);
        due.is("-2^63", a.rise(0, 0, Long.MIN_VALUE), 3);
        due.is("100", a.rise(0, 0, 100), 0);
        ClockAuctions b = hall(100);
        due.is("101", b.rise(0, 0, 101), 0);
    }

    private static void promise14ReserveOf0() {
        ClockAuctions a = hall(0);
        due.is("-1", a.rise(0, 0, -1), 3);
        due.is("0", a.rise(0, 0, 0), 0);
        due.is("its winner", a.winner(0), 0);
        due.is("0 on 0: at least 1 more", a.rise(0, 1, 0), 3);
        due.is("1 on 0", a.rise(0, 1, 1), 0);
        due.is("1 on 1", a.rise(0, 0, 1), 3);
        due.is("2 on 1", a.rise(0, 0, 2), 0);
    }

    private static void promise14GreatestReserve() {
        ClockAuctions a = hall(1000000000L);
        due.is("10^9 - 1", a.rise(0, 1, 999999999L), 3);
        due.is("10^9", a.rise(0, 1, 1000000000L), 0);
        due.is("10^9 + 5 * 10^7 - 1", a.rise(0, 1, 1049999999L), 3);
        due.is("10^9 + 5 * 10^7", a.rise(0, 1, 1050000000L), 0);
    }

    private static void promise14Twentieth() {
        long[][] cases = {
            {0, 1}, {1, 2}, {19, 20}, {20, 21}, {21, 22}, {39, 40}, {40, 42}, {41, 43}, {59, 61}, {60, 63}, {99, 103},
            {100, 105}, {999, 1048}, {1000, 1050}};
        for (long[] c : cases) {
            ClockAuctions a = hall(0);
            a.rise(0, 0, c[0]);
            due.is("as much as " + c[0], a.rise(0, 1, c[0]), 3);
            due.is("too low on " + c[0], a.rise(0, 1, c[1] - 1), 3);
            due.is("the last offer stands", a.price(0), c[0]);
            due.is("enough on " + c[0], a.rise(0, 1, c[1]), 0);
            due.is("it is the last now", a.price(0), c[1]);
        }
    }

    private static void promise14TwentiethOfHisOwn() {
        ClockAuctions a = hall(0);
        a.rise(0, 0, 100);
        due.is("he too has to rise by a twentieth", a.rise(0, 0, 104), 3);
        due.is("105", a.rise(0, 0, 105), 0);
        due.is("of the last one: 109", a.rise(0, 0, 109), 3);
        due.is("110", a.rise(0, 0, 110), 0);
    }

    private static void promise14NoTwentiethOfTheReserve() {
        ClockAuctions a = hall(100);
        due.is("the first is at the reserve, not above", a.rise(0, 0, 100), 0);
        ClockAuctions b = hall(100);
        b.start(0, 100, 1);
        b.tick(100);
        b.again(0);
        due.is("below the lessened reserve", b.rise(0, 0, 89), 3);
        due.is("at it", b.rise(0, 0, 90), 0);
        due.is("a twentieth of 90 is 4", b.rise(0, 1, 93), 3);
        due.is("94", b.rise(0, 1, 94), 0);
    }

    private static void promise14Free() {
        ClockAuctions a = hall(0);
        due.is("1001 of 1000", a.rise(0, 0, 1001), 4);
        due.is("no offer", a.winner(0), -1);
        due.is("1000 of 1000", a.rise(0, 0, 1000), 0);
        ClockAuctions b = hall(0);
        b.rise(1, 0, 300);
        due.is("701 of 700", b.rise(0, 0, 701), 4);
        due.is("700 of 700", b.rise(0, 0, 700), 0);
        ClockAuctions c = hall(0);
        c.start(1, 300, 1);
        c.press(0, 0);
        c.tick(1);
        due.is("701 of 700 behind a sale", c.rise(0, 0, 701), 4);
        due.is("700 of 700 behind a sale", c.rise(0, 0, 700), 0);
    }

    private static void promise14FreeWithHisOwn() {
        ClockAuctions a = hall(0);
        a.rise(0, 0, 900);
        due.is("1001 with his 900 and 100 FREE", a.rise(0, 0, 1001), 4);
        due.is("his last offer stands", a.price(0), 900);
        due.is("1000 with his 900 and 100 FREE", a.rise(0, 0, 1000), 0);
        due.is("he holds it once", a.held(0), 1000);
    }

    private static void promise14NotWithAnothers() {
        ClockAuctions a = hall(0);
        a.rise(0, 1, 950);
        due.is("another's 950 does not count as his", a.rise(0, 0, 1001), 4);
        due.is("1000", a.rise(0, 0, 1000), 0);
    }

    private static void promise14NotWithHisOwnOnAnotherLot() {
        ClockAuctions a = hall(0);
        a.rise(0, 0, 500);
        a.rise(1, 1, 400);
        due.is("his 500 on lot 0 is not free for lot 1", a.rise(1, 0, 501), 4);
        due.is("500 is", a.rise(1, 0, 500), 0);
        due.is("nor is an offer that was overtaken his", a.rise(0, 1, 600), 0);
        due.is("501 on lot 0 is too low", a.rise(0, 0, 501), 3);
        due.is("with 500 FREE, 630 is too much", a.rise(0, 0, 630), 4);
    }

    private static void promise14FarTooMuch() {
        ClockAuctions a = hall(0);
        for (long cents : new long[] {1L << 32, (1L << 32) + 10, Long.MAX_VALUE, 1000000000001L}) {
            due.is("rise(0, 0, " + cents + ")", a.rise(0, 0, cents), 4);
        }
        due.is("10^12 + 1 of 10^12", a.rise(0, 1, 1000000000001L), 4);
        due.is("10^12 of 10^12", a.rise(0, 1, 1000000000000L), 0);
        due.is("2^63 - 1 with his own", a.rise(0, 1, Long.MAX_VALUE), 4);
        due.is("the least rise on 10^12 with his own", a.rise(0, 1, 1050000000000L), 4);
    }

    private static void promise14RefusedChangesNothing() {
        ClockAuctions a = hall(100);
        a.rise(0, 0, 99);
        a.rise(0, 0, 1001);
        due.is("the lot is OPEN", a.order(0, 0), 0);
        due.is("nothing is held", a.held(0), 0);
        due.is("it can be started", a.start(0, 100, 1), 100);
        due.is("2 for it", a.rise(0, 0, 100), 2);
        due.is("it is ON", a.clock(), 100);
        ClockAuctions b = hall(100);
        b.rise(0, 0, 500);
        b.rise(0, 1, 501);
        due.is("the offer of buyer 0 stands", b.winner(0), 0);
        due.is("buyer 1 holds nothing", b.held(1), 0);
        due.is("buyer 0 holds it", b.held(0), 500);
    }

    private static void promise14MoneyIsFreeAgain() {
        ClockAuctions a = hall(0);
        a.rise(0, 0, 1000);
        due.is("nothing FREE", a.rise(1, 0, 1), 4);
        a.rise(0, 1, 1050);
        due.is("all is FREE", a.rise(1, 0, 1000), 0);
        due.is("held(0)", a.held(0), 1000);
        due.is("held(1)", a.held(1), 1050);
    }

    private static void termsTenSeconds() {
        ClockAuctions a = hall(0);
        a.tick(777);
        a.rise(0, 0, 100);
        a.tick(9999);
        due.is("9999 ago: OFFERED", a.fee(0), -1);
        due.is("can be overtaken", a.start(0, 500, 1), -1);
        a.tick(1);
        due.is("10000 ago: SOLD", a.fee(0), 32);
        due.is("its record", a.record(0, 0), 3);
        due.is("cannot be overtaken", a.rise(0, 1, 500), 2);
        due.is("nor taken back", a.back(0), -1);
    }

    private static void termsTenSecondsAtOnce() {
        for (long ms : new long[] {10000, 10001, 1000000}) {
            ClockAuctions a = hall(0);
            a.rise(0, 0, 100);
            a.tick(ms);
            due.is("at once by tick(" + ms + ")", a.fee(0), 32);
        }
        ClockAuctions b = hall(0);
        b.rise(0, 0, 100);
        b.tick(9998);
        b.tick(1);
        due.is("not by 9999", b.fee(0), -1);
        due.is("it is OFFERED", b.rise(0, 1, 105), 0);
    }

    private static void termsTimeOfTheLastOffer() {
        ClockAuctions a = hall(0);
        a.rise(0, 0, 100);
        a.tick(9999);
        a.rise(0, 1, 200);
        a.tick(9999);
        due.is("the last one is 9999 ago", a.fee(0), -1);
        a.rise(0, 1, 210);
        a.tick(9999);
        due.is("his own too begins anew", a.fee(0), -1);
        a.tick(1);
        due.is("10000 ago", a.fee(0), 35);
        due.is("SOLD to the last one", a.winner(0), 1);
        due.is("for his last offer", a.price(0), 210);
    }

    private static void termsRefusedIsNotTheLast() {
        ClockAuctions a = hall(0);
        a.rise(0, 0, 100);
        a.tick(5000);
        a.rise(0, 1, 104);
        a.rise(0, 0, 1001);
        a.rise(0, 9, 500);
        a.tick(4999);
        due.is("9999 ago", a.fee(0), -1);
        a.tick(1);
        due.is("10000 ago, whatever was refused", a.fee(0), 32);
        due.is("winner(0)", a.winner(0), 0);
    }

    private static void termsDayNotClock() {
        ClockAuctions a = hall(0);
        a.start(1, 1000, 1);
        a.rise(0, 0, 100);
        a.tick(100);
        a.outage(100, true);
        a.tick(9899);
        due.is("9999 of the day ago, the clock stands at 0", a.fee(0), -1);
        a.tick(1);
        due.is("10000 of the day ago", a.fee(0), 32);
    }

    private static void termsLeastLotFirst() {
        ClockAuctions a = hall(0);
        a.lot(0, 1, 0);
        a.rise(2, 0, 10);
        a.tick(1);
        a.rise(1, 0, 20);
        a.tick(1);
        a.rise(0, 0, 30);
        a.tick(9998);
        due.is("lot 2 is 10000 ago", a.record(0, 1), 2);
        due.is("lot 1 is 9999 ago", a.record(1, 1), -1);
        a.tick(2);
        due.is("the least lot first, though later", a.record(1, 1), 0);
        due.is("then the other", a.record(2, 1), 1);
        due.is("no more", a.record(3, 1), -1);
    }

    private static void termsBehindTheClock() {
        ClockAuctions a = hall(0);
        a.rise(0, 0, 10);
        a.start(1, 100, 1);
        a.press(1, 0);
        due.is("both in one tick", a.tick(10000), 1);
        due.is("first the clock's", a.record(0, 0), 1);
        due.is("of lot 1", a.record(0, 1), 1);
        due.is("then the offer's", a.record(1, 0), 3);
        due.is("of lot 0", a.record(1, 1), 0);
    }

    private static void termsBehindTheClocksUnsold() {
        ClockAuctions a = hall(0);
        a.rise(0, 0, 10);
        a.start(1, 0, 1);
        due.is("both in one tick", a.tick(10000), 2);
        due.is("first the clock's", a.record(0, 0), 2);
        due.is("then the offer's", a.record(1, 0), 3);
    }

    private static void termsMoneyOfAnOfferIsHeldForTheClock() {
        ClockAuctions a = hall(0);
        a.rise(0, 0, 901);
        a.start(1, 100, 1);
        a.press(0, 0);
        due.is("99 FREE for 100", a.tick(99), 0);
        ClockAuctions b = hall(0);
        b.rise(0, 0, 900);
        b.start(1, 100, 1);
        b.press(0, 0);
        due.is("100 FREE for 100", b.tick(99), 1);
    }

    private static void termsSoldOnce() {
        ClockAuctions a = hall(0);
        a.rise(0, 0, 10);
        a.tick(10000);
        a.tick(10000);
        a.tick(1);
        due.is("one record", a.record(1, 0), -1);
        due.is("held once", a.held(0), 10);
    }

    private static void termsTakenBackInTime() {
        ClockAuctions a = hall(0);
        a.rise(0, 0, 10);
        a.tick(9999);
        due.is("back just in time", a.back(0), 1);
        a.tick(10000);
        due.is("it is not SOLD", a.fee(0), -1);
        due.is("one record", a.record(1, 0), -1);
    }
}
