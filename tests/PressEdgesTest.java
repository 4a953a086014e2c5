/** Edges of promises 5 (press), 6 (delay) and 29 (tie), and of what the Terms say of PRESSES. */
public final class PressEdgesTest {
    private static final Due due = new Due();

    public static void main(String[] args) {
        promise5Index();
        promise5NoLotIsOn();
        promise5ClockStands();
        promise5Range();
        promise5RefusedIsNoPress();
        promise5AtTheEnd();
        promise5AtTheEndByTheDelay();
        promise5AsEarlyOrEarlier();
        promise5AsEarlyByTheDelay();
        promise5RefusedLeavesTheOther();
        promise5TakesThePlace();
        promise5BeforeTheClocksTime();
        promise5OthersHaveTheirOwn();
        promise5OfTheClockBefore();
        promise6Index();
        promise6Range();
        promise6LeastAndGreatest();
        promise6AtLeast0();
        promise6FromNowOn();
        promise6EachBuyerHasHisOwn();
        promise6AnyTime();
        termsEarlierFirst();
        termsLesserBuyerFirst();
        termsHundreds();
        termsAboveFree();
        termsFreeWhenLookedAt();
        termsGoneStaysGone();
        termsGoneCanComeAgain();
        termsAllGoneAtTheEnd();
        promise29Index();
        promise29K();
        promise29ThirtyBuyers();
        promise29CouldPay();
        promise29FreeBeforeItWasSold();
        promise29SameTime();
        promise29SameTimeByTheDelay();
        promise29BuyerIsLeftOut();
        promise29EachState();
        promise29Stays();
        due.end();
    }

    /** Lots 0 .. 2 with a reserve of 100, buyers 0 .. 3 with 1000; lot 0 is ON from 1000, its end is 1000. */
    private static ClockAuctions running() {
        ClockAuctions a = hall();
        a.start(0, 1000, 100);
        return a;
    }

    private static ClockAuctions hall() {
        ClockAuctions a = new ClockAuctions();
        for (int i = 0; i < 3; i++) {
            a.lot(0, 10, 100);
        }
        for (int i = 0; i < 4; i++) {
            a.buyer(1000);
        }
        return a;
    }

    private static void promise5Index() {
        ClockAuctions a = running();
        for (int buyer : Edges.noneOf(4)) {
            due.is("press(" + buyer + ", 0)", a.press(buyer, 0), false);
        }
        due.is("none of them came", a.tick(1), 0);
        due.is("the last buyer", a.press(3, 50), true);
        due.is("the first buyer", a.press(0, 60), true);
    }

    private static void promise5NoLotIsOn() {
        ClockAuctions a = hall();
        due.is("before any is ON", a.press(0, 0), false);
        a.start(0, 1000, 100);
        due.is("it did not come all the same", a.tick(1), 0);
        a.press(1, 1);
        a.tick(1);
        due.is("behind one that was sold", a.press(0, 500), false);
        a.start(1, 1000, 100);
        a.tick(1000);
        due.is("behind one that is unsold", a.press(0, 500), false);
        a.start(2, 1000, 100);
        due.is("nor did those", a.tick(999), 0);
    }

    private static void promise5ClockStands() {
        ClockAuctions a = running();
        a.tick(250);
        a.outage(0, true);
        due.is("before its time", a.press(0, 100), false);
        due.is("behind its time", a.press(0, 500), false);
        a.outage(0, false);
        due.is("neither came", a.press(0, 500), true);
    }

    private static void promise5Range() {
        ClockAuctions a = running();
        for (long ms : Edges.outside(0, 20000000)) {
            due.is("press(0, " + ms + ")", a.press(0, ms), false);
        }
        due.is("2 * 10^7 is behind each end", a.press(0, 20000000), false);
        due.is("0", a.press(0, 0), true);
    }

    private static void promise5RefusedIsNoPress() {
        for (long ms : Edges.outside(0, 20000000)) {
            ClockAuctions a = running();
            a.press(0, ms);
            due.is("nothing came with press(0, " + ms + ")", a.press(0, 999), true);
            a.press(1, 500);
            due.is("sold to another", a.tick(500), 1);
            due.is("winner(0)", a.winner(0), 1);
        }
    }

    private static void promise5AtTheEnd() {
        ClockAuctions a = running();
        due.is("behind the end", a.press(0, 1001), false);
        due.is("at the end", a.press(0, 1000), false);
        due.is("just before it", a.press(0, 999), true);
        ClockAuctions b = new ClockAuctions();
        b.lot(0, 1, 0);
        b.buyer(1000000000L);
        b.start(0, 99999, 1);
        due.is("behind the greatest end", b.press(0, 10000001), false);
        due.is("at the greatest end", b.press(0, 10000000), false);
        due.is("just before the greatest end", b.press(0, 9999999), true);
    }

    private static void promise5AtTheEndByTheDelay() {
        ClockAuctions a = running();
        a.delay(0, 300);
        due.is("behind the end", a.press(0, 1301), false);
        due.is("at the end", a.press(0, 1300), false);
        due.is("just before it", a.press(0, 1299), true);
        due.is("it is at 999", a.tick(999), 1);
        due.is("price(0)", a.price(0), 100);
        ClockAuctions b = new ClockAuctions();
        b.lot(0, 1, 0);
        b.buyer(1000000000L);
        b.delay(0, 5000);
        b.start(0, 99999, 1);
        due.is("at the greatest end by the greatest delay", b.press(0, 10005000), false);
        due.is("just before it", b.press(0, 10004999), true);
    }

    private static void promise5AsEarlyOrEarlier() {
        ClockAuctions a = running();
        due.is("at 500", a.press(0, 500), true);
        due.is("he has one that is earlier", a.press(0, 501), false);
        due.is("he has one that is as early", a.press(0, 500), false);
        due.is("his is later", a.press(0, 499), true);
        due.is("he has one that is as early now", a.press(0, 499), false);
        due.is("down to 1", a.press(0, 1), true);
        due.is("and 0", a.press(0, 0), true);
        due.is("none is earlier than 0", a.press(0, 0), false);
    }

    private static void promise5AsEarlyByTheDelay() {
        ClockAuctions a = running();
        a.press(0, 500);
        a.delay(0, 100);
        due.is("601 is 501", a.press(0, 601), false);
        due.is("600 is 500", a.press(0, 600), false);
        due.is("599 is 499", a.press(0, 599), true);
        a.delay(0, 0);
        due.is("499 is 499", a.press(0, 499), false);
        due.is("498 is 498", a.press(0, 498), true);
    }

    private static void promise5RefusedLeavesTheOther() {
        ClockAuctions a = running();
        a.press(0, 200);
        a.press(0, 300);
        a.press(0, 200);
        a.press(0, 1000);
        a.press(0, -1);
        due.is("not before 200", a.tick(199), 0);
        due.is("at 200", a.tick(1), 1);
        due.is("at its price", a.price(0), 800);
    }

    private static void promise5TakesThePlace() {
        ClockAuctions a = running();
        a.press(0, 300);
        a.press(0, 100);
        due.is("at 100", a.tick(100), 1);
        due.is("at its price", a.price(0), 900);
        a.start(1, 1000, 100);
        due.is("the one at 300 is not there", a.tick(301), 0);
        ClockAuctions b = running();
        b.press(0, 300);
        b.press(0, 100);
        b.rise(1, 0, 150);
        due.is("gone at 100 with 850 FREE for 900", b.tick(100), 0);
        due.is("it had taken the place of the one at 300", b.tick(250), 0);
        due.is("which he could have paid", b.press(0, 300), true);
        due.is("and can", b.tick(1), 1);
    }

    private static void promise5BeforeTheClocksTime() {
        ClockAuctions a = running();
        a.tick(550);
        due.is("a press at 0 at 550", a.press(2, 0), true);
        due.is("it has to wait for the clock", a.winner(0), -1);
        due.is("it buys when the clock goes on", a.tick(1), 1);
        due.is("at the price of 0", a.price(0), 1000);
    }

    private static void promise5OthersHaveTheirOwn() {
        ClockAuctions a = running();
        due.is("buyer 1 at 300", a.press(1, 300), true);
        due.is("buyer 0 at 300", a.press(0, 300), true);
        due.is("buyer 2 at 301", a.press(2, 301), true);
        due.is("buyer 3 at 299", a.press(3, 299), true);
        a.tick(400);
        due.is("the earliest", a.winner(0), 3);
    }

    private static void promise5OfTheClockBefore() {
        ClockAuctions a = running();
        a.press(0, 500);
        a.press(1, 1);
        a.tick(1);
        a.start(1, 1000, 100);
        due.is("a press of the clock before is not his one", a.press(0, 500), true);
        due.is("at 500", a.tick(500), 1);
        due.is("winner(1)", a.winner(1), 0);
    }

    private static void promise6Index() {
        ClockAuctions a = hall();
        for (int buyer : Edges.noneOf(4)) {
            due.is("delay(" + buyer + ", 0)", a.delay(buyer, 0), false);
        }
        due.is("the first buyer", a.delay(0, 1), true);
        due.is("the last buyer", a.delay(3, 1), true);
    }

    private static void promise6Range() {
        for (long ms : Edges.outside(0, 5000)) {
            ClockAuctions a = running();
            a.delay(0, 200);
            due.is("delay(0, " + ms + ")", a.delay(0, ms), false);
            due.is("it stays 200: 1200 is 1000", a.press(0, 1200), false);
            due.is("it stays 200: 1199 is 999", a.press(0, 1199), true);
        }
    }

    private static void promise6LeastAndGreatest() {
        ClockAuctions a = running();
        due.is("5000", a.delay(0, 5000), true);
        due.is("6000 is 1000", a.press(0, 6000), false);
        due.is("5999 is 999", a.press(0, 5999), true);
        due.is("0", a.delay(0, 0), true);
        due.is("999 is 999", a.press(0, 999), false);
        due.is("998 is 998", a.press(0, 998), true);
        due.is("1", a.delay(0, 1), true);
        due.is("999 is 998", a.press(0, 999), false);
        due.is("998 is 997", a.press(0, 998), true);
    }

    private static void promise6AtLeast0() {
        ClockAuctions a = running();
        a.delay(0, 5000);
        a.delay(1, 5000);
        a.delay(2, 5000);
        due.is("5001 is 1", a.press(0, 5001), true);
        due.is("5000 is 0", a.press(0, 5000), true);
        due.is("4999 is 0 too", a.press(0, 4999), false);
        due.is("0 is 0 too", a.press(0, 0), false);
        due.is("buyer 1's 0 is 0, not before it", a.press(1, 0), true);
        due.is("as is 5000", a.press(1, 5000), false);
        due.is("buyer 2's 1 is 0", a.press(2, 1), true);
        a.tick(1);
        due.is("of one time the lesser buyer", a.winner(0), 0);
        due.is("at what it began with, not more", a.price(0), 1000);
        due.is("buyers 1 and 2 had the same time", a.tie(0, 1), 2);
    }

    private static void promise6FromNowOn() {
        ClockAuctions a = running();
        a.delay(0, 100);
        a.press(0, 600);
        a.delay(0, 400);
        due.is("the one at 500 is not moved", a.tick(499), 0);
        due.is("it is at 500", a.tick(1), 1);
        due.is("price(0)", a.price(0), 500);
        a.start(1, 1000, 100);
        a.press(0, 600);
        due.is("the delay goes on with the next clock", a.tick(199), 0);
        a.rise(2, 0, 100);
        due.is("600 is 200", a.tick(1), 0);
        due.is("and is gone with 400 FREE", a.press(0, 900), true);
        due.is("900 is 500", a.press(0, 900), false);
    }

    private static void promise6EachBuyerHasHisOwn() {
        ClockAuctions a = running();
        a.delay(1, 300);
        due.is("buyer 0 at 300", a.press(0, 300), true);
        due.is("buyer 1 at 100", a.press(1, 400), true);
        due.is("buyer 2 at 200", a.press(2, 200), true);
        a.tick(500);
        due.is("the earliest press came last", a.winner(0), 1);
        due.is("price(0)", a.price(0), 900);
    }

    private static void promise6AnyTime() {
        ClockAuctions a = hall();
        due.is("no lot is ON", a.delay(0, 10), true);
        a.start(0, 1000, 100);
        due.is("one is ON", a.delay(0, 20), true);
        a.outage(0, true);
        due.is("it stands", a.delay(0, 30), true);
        a.outage(0, false);
        due.is("1030 is 1000", a.press(0, 1030), false);
        due.is("1029 is 999", a.press(0, 1029), true);
    }

    private static void termsEarlierFirst() {
        ClockAuctions a = running();
        a.press(0, 151);
        a.press(3, 150);
        a.press(1, 152);
        a.tick(900);
        due.is("earlier by one, of the same price", a.winner(0), 3);
        due.is("price(0)", a.price(0), 900);
    }

    private static void termsLesserBuyerFirst() {
        ClockAuctions a = running();
        a.press(3, 150);
        a.press(2, 150);
        a.press(1, 150);
        a.tick(900);
        due.is("of one time that of the lesser buyer", a.winner(0), 1);
        ClockAuctions b = running();
        b.press(1, 150);
        b.press(2, 150);
        b.rise(1, 1, 101);
        b.tick(900);
        due.is("unless he cannot pay", b.winner(0), 2);
    }

    private static void termsHundreds() {
        long[][] cases = {{0, 1000}, {99, 1000}, {100, 900}, {199, 900}, {200, 800}, {899, 200}, {900, 100}, {999, 100}};
        for (long[] c : cases) {
            ClockAuctions a = running();
            a.press(0, c[0]);
            due.is("a press at " + c[0], a.tick(1000), 1);
            due.is("its price", a.price(0), c[1]);
        }
    }

    private static void termsAboveFree() {
        ClockAuctions a = new ClockAuctions();
        a.lot(0, 1, 0);
        a.buyer(500);
        a.buyer(499);
        a.buyer(500);
        a.start(0, 500, 500);
        a.press(1, 0);
        a.press(2, 50);
        due.is("499 for 500 is gone", a.tick(10), 0);
        due.is("500 for 500 buys", a.tick(90), 1);
        due.is("winner(0)", a.winner(0), 2);
        due.is("held(2)", a.held(2), 500);
        ClockAuctions b = new ClockAuctions();
        b.lot(0, 1, 0);
        b.buyer(0);
        b.start(0, 1, 1);
        b.press(0, 99);
        due.is("0 for 1 is gone", b.tick(99), 0);
        b.press(0, 100);
        due.is("0 for 0 buys", b.tick(1), 1);
    }

    private static void termsFreeWhenLookedAt() {
        ClockAuctions a = running();
        a.press(0, 100);
        a.rise(1, 0, 101);
        due.is("what he has FREE when it is looked at: 899 for 900", a.tick(100), 0);
        ClockAuctions b = running();
        b.rise(1, 0, 101);
        b.press(0, 100);
        b.rise(1, 1, 106);
        due.is("his offer was free again by then", b.tick(100), 1);
        due.is("winner(0)", b.winner(0), 0);
    }

    private static void termsGoneStaysGone() {
        ClockAuctions a = running();
        a.rise(1, 0, 101);
        a.press(0, 100);
        due.is("899 FREE for 900", a.tick(100), 0);
        a.back(1);
        due.is("gone for good", a.tick(100), 0);
        due.is("though he could pay now", a.tick(799), 0);
    }

    private static void termsGoneCanComeAgain() {
        ClockAuctions a = running();
        a.rise(1, 0, 101);
        a.press(0, 100);
        due.is("899 FREE for 900", a.tick(100), 0);
        a.back(1);
        due.is("he has none that is as early", a.press(0, 100), true);
        due.is("it buys", a.tick(1), 1);
        due.is("price(0)", a.price(0), 900);
    }

    private static void termsAllGoneAtTheEnd() {
        ClockAuctions a = new ClockAuctions();
        a.lot(0, 1, 100);
        a.buyer(99);
        a.buyer(99);
        a.start(0, 100, 1);
        a.press(0, 99);
        a.press(1, 98);
        due.is("without any that can pay", a.tick(100), 2);
        due.is("UNSOLD", a.again(0), 1);
        a.start(0, 99, 1);
        due.is("the presses of the first time do not count", a.tick(99), 0);
        a.press(0, 99);
        due.is("a new one does", a.tick(1), 1);
    }

    private static ClockAuctions soldWithTies() {
        ClockAuctions a = running();
        a.press(3, 50);
        a.press(1, 50);
        a.press(2, 50);
        a.tick(50);
        return a;
    }

    private static void promise29Index() {
        ClockAuctions a = soldWithTies();
        for (int lot : Edges.noneOf(3)) {
            due.is("tie(" + lot + ", 0)", a.tie(lot, 0), -1);
        }
        due.is("tie(0, 0)", a.tie(0, 0), 2);
    }

    private static void promise29K() {
        ClockAuctions a = soldWithTies();
        for (int k : Edges.noneOf(2)) {
            due.is("tie(0, " + k + ")", a.tie(0, k), -1);
        }
        due.is("the first", a.tie(0, 0), 2);
        due.is("the last", a.tie(0, 1), 3);
        ClockAuctions b = running();
        b.press(1, 50);
        b.tick(50);
        due.is("there is none", b.tie(0, 0), -1);
    }

    private static void promise29ThirtyBuyers() {
        ClockAuctions a = new ClockAuctions();
        a.lot(0, 1, 0);
        for (int i = 0; i < 30; i++) {
            a.buyer(100);
        }
        a.start(0, 100, 1);
        for (int i = 29; i >= 0; i--) {
            a.press(i, 10);
        }
        a.tick(10);
        due.is("winner(0)", a.winner(0), 0);
        for (int k = 0; k < 29; k++) {
            due.is("tie(0, " + k + ")", a.tie(0, k), k + 1);
        }
        due.is("tie(0, 29)", a.tie(0, 29), -1);
    }

    private static void promise29CouldPay() {
        ClockAuctions a = new ClockAuctions();
        a.lot(0, 1, 0);
        for (long credit : new long[] {99, 100, 99, 100, 101, 0}) {
            a.buyer(credit);
        }
        a.start(0, 100, 1);
        for (int i = 0; i < 6; i++) {
            a.press(i, 10);
        }
        a.tick(10);
        due.is("the first with 100 for 100", a.winner(0), 1);
        due.is("the next with 100", a.tie(0, 0), 3);
        due.is("the one with 101", a.tie(0, 1), 4);
        due.is("none with 99", a.tie(0, 2), -1);
    }

    private static void promise29FreeBeforeItWasSold() {
        ClockAuctions a = running();
        a.rise(1, 1, 900);
        a.rise(2, 2, 100);
        a.press(0, 0);
        a.press(1, 0);
        a.press(2, 0);
        a.press(3, 0);
        a.tick(10000);
        due.is("his offers were held then", a.tie(0, 0), 3);
        due.is("no other", a.tie(0, 1), -1);
        ClockAuctions b = running();
        b.press(0, 0);
        b.press(1, 0);
        b.tick(1);
        b.rise(1, 1, 1000);
        due.is("what he holds since does not count", b.tie(0, 0), 1);
    }

    private static void promise29SameTime() {
        ClockAuctions a = running();
        a.press(0, 49);
        a.press(1, 50);
        a.press(2, 51);
        a.press(3, 49);
        a.tick(99);
        due.is("winner(0)", a.winner(0), 0);
        due.is("the same time", a.tie(0, 0), 3);
        due.is("not one later, of the same price", a.tie(0, 1), -1);
        ClockAuctions b = running();
        b.rise(1, 0, 100);
        b.press(0, 49);
        b.press(1, 50);
        b.press(2, 50);
        b.tick(99);
        due.is("who was gone before", b.winner(0), 1);
        due.is("is none of them", b.tie(0, 0), 2);
        due.is("nor any other", b.tie(0, 1), -1);
    }

    private static void promise29SameTimeByTheDelay() {
        ClockAuctions a = running();
        a.delay(1, 30);
        a.delay(2, 30);
        a.press(0, 50);
        a.press(1, 80);
        a.press(2, 81);
        a.press(3, 50);
        a.tick(99);
        due.is("80 is 50", a.tie(0, 0), 1);
        due.is("81 is not", a.tie(0, 1), 3);
        due.is("no other", a.tie(0, 2), -1);
    }

    private static void promise29BuyerIsLeftOut() {
        ClockAuctions a = soldWithTies();
        due.is("the buyer", a.winner(0), 1);
        for (int k = 0; k < 4; k++) {
            due.holds("tie(0, " + k + ") is not the buyer", a.tie(0, k) != 1);
        }
    }

    private static void promise29EachState() {
        ClockAuctions a = EachState.hall();
        for (int lot = 0; lot < EachState.LOTS; lot++) {
            due.is("tie of " + EachState.NAMES[lot], a.tie(lot, 0), lot == EachState.BY_CLOCK ? 2 : -1);
            due.is("second of " + EachState.NAMES[lot], a.tie(lot, 1), -1);
        }
    }

    private static void promise29Stays() {
        ClockAuctions a = soldWithTies();
        a.part(0, 4);
        a.start(1, 1000, 100);
        a.press(0, 0);
        a.tick(1);
        due.is("behind a part and another sale", a.tie(0, 0), 2);
        due.is("its last", a.tie(0, 1), 3);
        due.is("the other sale has none", a.tie(1, 0), -1);
        due.is("the others of the part have none", a.tie(3, 0), -1);
    }
}
