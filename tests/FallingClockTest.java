/** Promises 4 (start), 5 (press), 6 (delay), 7 (tick), 12 (outage), 13 (clock) and 29 (tie). */
public final class FallingClockTest {
    private static final Due due = new Due();

    public static void main(String[] args) {
        promise4Start();
        promise4States();
        promise5Press();
        promise5PressesEndWithTheLot();
        promise6Delay();
        promise6DelayFromNowOn();
        promise7Tick();
        promise7EarlierPressFirst();
        promise7LesserBuyerFirst();
        promise7WhoCannotPayIsGone();
        promise7OffersSettleBehindTheClock();
        promise12Outage();
        promise12GoesBack();
        promise12PressesBehindAreGone();
        promise13Clock();
        promise29Tie();
        promise29OnlyTheClock();
        due.end();
    }

    /** Lots 0 .. 2 with a reserve of 100, buyers 0 .. 3 with 1000. */
    private static ClockAuctions hall() {
        ClockAuctions a = new ClockAuctions();
        for (int i = 0; i < 3; i++) {
            a.lot(0, 10, 100);
        }
        for (int i = 0; i < 4; i++) {
            a.buyer(1000);
        }
        return a;
    }

    private static void promise4Start() {
        ClockAuctions a = hall();
        due.is("no such lot", a.start(3, 200, 1), -1);
        due.is("lot -1", a.start(-1, 200, 1), -1);
        due.is("below the reserve", a.start(0, 99, 1), -1);
        due.is("above 10^9", a.start(0, 1000000001L, 1000000), -1);
        due.is("step 0", a.start(0, 200, 0), -1);
        due.is("step -1", a.start(0, 200, -1), -1);
        due.is("step 10^6 + 1", a.start(0, 200, 1000001), -1);
        due.is("the end above 10^7", a.start(0, 100100, 1), -1);
        due.is("none is ON after what was refused", a.clock(), -1);
        due.is("the end at 10^7", a.start(0, 100099, 1), 10000000);
        due.is("one is ON", a.start(1, 200, 1), -1);
        due.is("itself is ON", a.start(0, 200, 1), -1);

        due.is("at the reserve", hall().start(0, 100, 1), 100);
        due.is("a step on the reserve", hall().start(0, 200, 50), 300);
        due.is("a step over the reserve", hall().start(0, 199, 50), 200);
        due.is("from and step at their greatest", hall().start(0, 1000000000L, 1000000), 100000);
        due.is("the greatest step", hall().start(0, 200, 1000000), 100);
    }

    private static void promise4States() {
        ClockAuctions a = hall();
        a.rise(0, 0, 100);
        due.is("OFFERED", a.start(0, 200, 1), -1);
        a.back(0);
        due.is("BACK", a.start(0, 200, 1), -1);
        a.start(1, 100, 1);
        a.tick(100);
        due.is("UNSOLD", a.start(1, 200, 1), -1);
        a.again(1);
        due.is("open again", a.start(1, 90, 1), 100);
        a.press(0, 0);
        a.tick(1);
        due.is("SOLD", a.start(1, 200, 1), -1);
        due.is("OPEN", a.start(2, 200, 1), 10100);
    }

    private static void promise5Press() {
        ClockAuctions a = hall();
        due.is("no lot is ON", a.press(0, 0), false);
        a.start(0, 300, 100);
        due.is("no such buyer", a.press(4, 0), false);
        due.is("buyer -1", a.press(-1, 0), false);
        due.is("ms -1", a.press(0, -1), false);
        due.is("at the end", a.press(0, 300), false);
        due.is("just before the end", a.press(0, 299), true);
        due.is("as early", a.press(0, 299), false);
        due.is("earlier", a.press(0, 250), true);
        due.is("later", a.press(0, 251), false);
        due.is("another buyer's", a.press(1, 250), true);
        a.tick(251);
        due.is("the earlier one took the other's place", a.price(0), 100);
        due.is("and won by the lesser number", a.winner(0), 0);

        ClockAuctions b = hall();
        b.start(0, 100099, 1);
        b.delay(0, 5000);
        due.is("ms 2 * 10^7 + 1", b.press(0, 20000001), false);
        due.is("behind the end for all the delay", b.press(0, 20000000), false);
        due.is("at the end for all the delay", b.press(0, 10005000), false);
        due.is("before the end by the delay", b.press(0, 10004999), true);
        b.outage(0, true);
        due.is("the clock stands", b.press(0, 5000), false);
        b.outage(0, false);
        due.is("the clock goes on", b.press(0, 5000), true);
    }

    private static void promise5PressesEndWithTheLot() {
        ClockAuctions a = hall();
        a.start(0, 300, 100);
        a.press(0, 0);
        a.press(1, 50);
        a.tick(1);
        a.start(1, 300, 100);
        due.is("an older lot's press does not count", a.tick(200), 0);
        due.is("nor stand in the way of a new one", a.press(1, 60), true);
        due.is("it is looked at when the clock goes on", a.tick(1), 1);
        due.is("a press from before now is at its own price", a.price(1), 300);
    }

    private static void promise6Delay() {
        ClockAuctions a = hall();
        due.is("no such buyer", a.delay(4, 0), false);
        due.is("buyer -1", a.delay(-1, 0), false);
        due.is("ms -1", a.delay(0, -1), false);
        due.is("ms 5001", a.delay(0, 5001), false);
        due.is("ms 5000", a.delay(0, 5000), true);
        a.start(0, 200, 10);
        due.is("at least 0", a.press(0, 10), true);
        due.is("0 is as early as can be", a.press(0, 5000), false);
        due.is("ms 0", a.delay(1, 0), true);
        a.press(1, 100);
        a.tick(1);
        due.is("the late press won", a.winner(0), 0);
        due.is("at the clock's first price", a.price(0), 200);

        ClockAuctions b = hall();
        b.start(0, 200, 10);
        b.delay(3, 5000);
        b.press(0, 1);
        b.press(3, 10);
        b.tick(1);
        due.is("at least 0 is before 1", b.winner(0), 3);
    }

    private static void promise6DelayFromNowOn() {
        ClockAuctions a = hall();
        a.start(0, 300, 10);
        a.press(0, 500);
        a.delay(0, 400);
        due.is("the press before keeps its time", a.press(0, 900), false);
        due.is("a later one is earlier by the delay", a.press(0, 899), true);
        a.delay(0, 5001);
        due.is("what is refused changes nothing", a.press(0, 898), true);
        due.is("not before 498", a.tick(497), 0);
        due.is("at 498", a.tick(1), 1);
        due.is("price(0)", a.price(0), 260);
        a.start(1, 300, 10);
        due.is("the delay stays for other lots", a.press(0, 400), true);
        due.is("its press is at 0", a.press(0, 399), false);
    }

    private static void promise7Tick() {
        ClockAuctions a = hall();
        due.is("none is ON", a.tick(1), -1);
        a.start(0, 300, 100);
        due.is("ms 0", a.tick(0), -1);
        due.is("ms -1", a.tick(-1), -1);
        due.is("ms 10^6 + 1", a.tick(1000001), -1);
        due.is("what is refused does not move the clock", a.clock(), 300);
        due.is("still ON", a.tick(299), 0);
        due.is("not beyond its end", a.tick(1000000), 2);
        due.is("UNSOLD", a.winner(0), -1);
        due.is("again none is ON", a.tick(1), -1);
        a.start(1, 300, 100);
        a.press(0, 299);
        due.is("not yet", a.tick(298), 0);
        due.is("at its time", a.tick(1), 1);
        due.is("its price", a.price(1), 100);
        a.start(2, 300, 100);
        a.press(2, 299);
        due.is("a press before the end sells beyond it", a.tick(1000000), 1);
        due.is("winner(2)", a.winner(2), 2);
    }

    private static void promise7EarlierPressFirst() {
        ClockAuctions a = hall();
        a.start(0, 300, 100);
        a.press(0, 199);
        a.press(3, 198);
        a.press(2, 299);
        due.is("sold", a.tick(250), 1);
        due.is("the earlier press", a.winner(0), 3);
        due.is("price(0)", a.price(0), 200);
        due.is("held(3)", a.held(3), 200);
        due.is("held(0)", a.held(0), 0);
    }

    private static void promise7LesserBuyerFirst() {
        ClockAuctions a = hall();
        a.start(0, 300, 100);
        a.press(3, 100);
        a.press(1, 100);
        a.press(2, 100);
        a.tick(100);
        due.is("the lesser buyer", a.winner(0), 1);
    }

    private static void promise7WhoCannotPayIsGone() {
        ClockAuctions a = new ClockAuctions();
        a.lot(0, 1, 100);
        a.lot(0, 1, 0);
        a.buyer(299);
        a.buyer(250);
        a.buyer(200);
        a.rise(1, 1, 51);
        a.start(0, 300, 100);
        a.press(0, 0);
        a.press(1, 100);
        a.press(2, 101);
        due.is("one with 299 for 300", a.tick(50), 0);
        due.is("is gone: he can press later", a.press(0, 150), true);
        due.is("one with 199 FREE for 200, then one with 200", a.tick(60), 1);
        due.is("winner(0)", a.winner(0), 2);
        due.is("price(0)", a.price(0), 200);
        due.is("held(1): his offer alone", a.held(1), 51);

        ClockAuctions b = new ClockAuctions();
        b.lot(0, 1, 100);
        b.buyer(99);
        b.start(0, 300, 100);
        b.press(0, 299);
        due.is("nobody can pay", b.tick(400), 2);
        due.is("price(0)", b.price(0), -1);
    }

    private static void promise7OffersSettleBehindTheClock() {
        ClockAuctions a = hall();
        a.rise(2, 0, 100);
        a.rise(1, 1, 100);
        a.start(0, 300, 100);
        due.is("day 9999: no end yet, but the clock's", a.tick(9999), 2);
        due.is("still OFFERED", a.fee(1), -1);
        a.again(0);
        a.start(0, 300, 100);
        a.press(3, 0);
        due.is("the clock sells", a.tick(1), 1);
        due.is("record 2 is the clock's", a.record(2, 0), 1);
        due.is("record 3 is an offer's", a.record(3, 0), 3);
        due.is("of the lesser lot", a.record(3, 1), 1);
        due.is("record 4 is the other's", a.record(4, 1), 2);
        due.is("no more", a.record(5, 0), -1);
        due.is("SOLD now", a.fee(1), 32);
    }

    private static void promise12Outage() {
        ClockAuctions a = hall();
        due.is("no lot is ON", a.outage(0, true), false);
        due.is("no lot is ON", a.outage(0, false), false);
        a.start(0, 500, 100);
        due.is("it does not stand", a.outage(0, false), false);
        a.tick(250);
        due.is("ms -1", a.outage(-1, true), false);
        due.is("ms above its time", a.outage(251, true), false);
        due.is("what is refused changes nothing", a.clock(), 300);
        due.is("ms is its time", a.outage(250, true), true);
        due.is("from the beginning", a.clock(), 500);
        due.is("it stands", a.outage(0, true), false);
        due.is("ms 1, not on", a.outage(1, false), false);
        due.is("ms -1, not on", a.outage(-1, false), false);
        due.is("a day without the clock", a.tick(1000000), 0);
        due.is("it stands still", a.clock(), 500);
        due.is("not on", a.outage(0, false), true);
        due.is("it goes on", a.tick(100), 0);
        due.is("from where it stood", a.clock(), 400);
        due.is("not on again", a.outage(0, false), false);
        a.outage(0, true);
        due.is("a lot that is ON while it stands cannot go back", a.back(0), -1);
        a.outage(0, false);
        a.tick(400);
        a.start(1, 100, 1);
        due.is("a new clock does not stand", a.outage(0, false), false);
    }

    private static void promise12GoesBack() {
        ClockAuctions a = hall();
        a.start(0, 1000, 100);
        a.tick(350);
        a.outage(51, true);
        due.is("299 is at 200", a.clock(), 800);
        a.outage(0, false);
        a.tick(99);
        due.is("and goes on from 200", a.clock(), 800);
        a.tick(1);
        due.is("to 300", a.clock(), 700);
        a.outage(0, true);
        due.is("a full hundred stays", a.clock(), 700);
        a.outage(0, false);
        a.tick(99);
        due.is("from 300 on", a.clock(), 700);
    }

    private static void promise12PressesBehindAreGone() {
        ClockAuctions a = hall();
        a.start(0, 500, 100);
        a.tick(290);
        a.press(0, 199);
        a.press(1, 200);
        a.press(2, 250);
        a.press(3, 400);
        a.outage(20, true);
        a.outage(0, false);
        due.is("the one at 200 is gone", a.press(1, 300), true);
        due.is("the one at 250 is gone", a.press(2, 300), true);
        due.is("the one at 400 is gone", a.press(3, 401), true);
        due.is("the one at 199 is not", a.press(0, 199), false);
        due.is("it buys", a.tick(1), 1);
        due.is("winner(0)", a.winner(0), 0);
        due.is("price(0)", a.price(0), 400);
    }

    private static void promise13Clock() {
        ClockAuctions a = hall();
        due.is("none is ON", a.clock(), -1);
        a.start(0, 1000, 30);
        due.is("at 0", a.clock(), 1000);
        a.tick(99);
        due.is("at 99", a.clock(), 1000);
        a.tick(1);
        due.is("at 100", a.clock(), 970);
        a.tick(2899);
        due.is("at 2999", a.clock(), 130);
        a.tick(1);
        due.is("at 3000", a.clock(), 100);
        a.tick(100);
        due.is("at its end", a.clock(), -1);
    }

    private static void promise29Tie() {
        ClockAuctions a = new ClockAuctions();
        a.lot(0, 10, 0);
        a.lot(0, 10, 0);
        a.buyer(199);
        a.buyer(200);
        a.buyer(1000);
        a.buyer(200);
        a.buyer(199);
        a.buyer(1000);
        a.buyer(1000);
        a.buyer(1000);
        a.rise(1, 2, 801);
        a.start(0, 300, 100);
        int[] times = {150, 150, 150, 150, 150, 151, 149, 150};
        for (int b = 0; b < times.length; b++) {
            a.press(b, times[b]);
        }
        a.press(6, 100);
        a.rise(1, 6, 850);
        due.is("no tie before", a.tie(0, 0), -1);
        due.is("sold", a.tick(200), 1);
        due.is("buyers 0, 4 and 6 cannot pay", a.winner(0), 1);
        due.is("tie(0, 0)", a.tie(0, 0), 2);
        due.is("tie(0, 1)", a.tie(0, 1), 3);
        due.is("tie(0, 2)", a.tie(0, 2), 7);
        due.is("tie(0, 3)", a.tie(0, 3), -1);
        due.is("tie(0, -1)", a.tie(0, -1), -1);
        due.is("tie(-1, 0)", a.tie(-1, 0), -1);
        due.is("tie(2, 0)", a.tie(2, 0), -1);
        a.part(0, 4);
        due.is("a part that was left changes none", a.tie(0, 2), 7);
        due.is("the others have none", a.tie(2, 0), -1);
    }

    private static void promise29OnlyTheClock() {
        ClockAuctions a = hall();
        a.rise(0, 0, 100);
        a.bid(0, 100);
        a.bid(1, 100);
        a.on(0, 1);
        a.on(1, 1);
        a.sets(4);
        a.tick(10000);
        due.is("sold by offers", a.tie(0, 0), -1);
        due.is("sold in a set", a.tie(1, 0), -1);
        a.start(2, 100, 1);
        a.press(0, 5);
        a.press(1, 5);
        due.is("a lot that is ON", a.tie(2, 0), -1);
        a.outage(0, true);
        a.outage(0, false);
        a.tick(100);
        due.is("an UNSOLD one", a.tie(2, 0), -1);
    }
}
