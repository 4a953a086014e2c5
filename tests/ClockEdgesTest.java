/** Edges of promises 4 (start), 7 (tick), 12 (outage) and 13 (clock). */
public final class ClockEdgesTest {
    private static final Due due = new Due();

    public static void main(String[] args) {
        promise4Index();
        promise4EachState();
        promise4OneIsOn();
        promise4OneIsOnAndStands();
        promise4From();
        promise4FromOfAReserveOf0And10To9();
        promise4FromOfALessenedReserve();
        promise4Step();
        promise4End();
        promise4Begins();
        promise7Length();
        promise7RefusedDoesNotMoveTheDay();
        promise7RefusedDoesNotMoveTheClock();
        promise7GreatestLength();
        promise7NoneOnMovesTheDay();
        promise7NoneOn();
        promise7StandsMovesTheDay();
        promise7BeforeAndAtTheEnd();
        promise7NotBeyondTheEnd();
        promise7PressAtTheClocksTime();
        promise7PressBeforeTheEnd();
        promise7SecondOfTheSameTick();
        promise12NoLotIsOn();
        promise12StandsAlready();
        promise12DoesNotStandAlready();
        promise12HowFarBack();
        promise12HowFarBackAtZero();
        promise12NotOnTakes0();
        promise12LastHundred();
        promise12PressesOfThatTime();
        promise12RefusedKeepsPresses();
        promise12GoesOnFromThere();
        promise12EndAfterAnOutage();
        promise13NoLotIsOn();
        promise13Hundreds();
        promise13BeforeTheEnd();
        due.end();
    }

    /** Lots 0 .. 2 with a reserve of 100, buyers 0 .. 3 with 1000. */
    private static ClockAuctions hall() {
        ClockAuctions a = new ClockAuctions();
        for (int i = 0; i < 3; i++) {
            a.lot(0, 10, 100);
        }
        for (int i = 0; i < 4; i++) {
            a.buyer(1000);
        }
        return a;
    }

    /** The clock of lot 0 has begun with 1000 and falls by 100 each 100 ms; its end is 1000. */
    private static ClockAuctions running(long ticked) {
        ClockAuctions a = hall();
        a.start(0, 1000, 100);
        if (ticked > 0) {
            a.tick(ticked);
        }
        return a;
    }

    private static void promise4Index() {
        ClockAuctions a = hall();
        for (int lot : Edges.noneOf(3)) {
            due.is("start(" + lot + ", 200, 1)", a.start(lot, 200, 1), -1);
            due.is("none is ON", a.clock(), -1);
        }
        due.is("the last lot", a.start(2, 200, 1), 10100);
        ClockAuctions b = hall();
        due.is("the first lot", b.start(0, 200, 1), 10100);
    }

    private static void promise4EachState() {
        for (int lot = 0; lot < EachState.LOTS; lot++) {
            boolean open = lot == EachState.OPEN || lot == EachState.ON || lot == EachState.OPEN_AGAIN
                || lot == EachState.OTHERS_OF_PART;
            String name = EachState.NAMES[lot];
            ClockAuctions a = EachState.hallWithoutClock();
            due.is("start of " + name, a.start(lot, 150, 1000), open ? 100 : -1);
            due.is("the clock then", a.clock(), open ? 150 : -1);
            ClockAuctions b = EachState.hall();
            due.is("start of " + name + " when one is ON", b.start(lot, 150, 1000), -1);
            due.is("the clock of that", b.clock(), 1000);
        }
    }

    private static void promise4OneIsOn() {
        ClockAuctions a = running(999);
        due.is("one is ON just before its end", a.start(1, 200, 1), -1);
        a.tick(1);
        due.is("none is ON at its end", a.start(1, 200, 1), 10100);
        a.press(0, 0);
        due.is("one is ON before it is sold", a.start(2, 200, 1), -1);
        a.tick(1);
        due.is("none is ON when it is sold", a.start(2, 200, 1), 10100);
    }

    private static void promise4OneIsOnAndStands() {
        ClockAuctions a = running(0);
        a.outage(0, true);
        due.is("another when one is ON and stands", a.start(1, 200, 1), -1);
        due.is("itself when it stands", a.start(0, 200, 1), -1);
        due.is("it stands still", a.outage(0, true), false);
        due.is("its clock", a.clock(), 1000);
    }

    private static void promise4From() {
        for (long from : Edges.outside(100, 1000000000L)) {
            ClockAuctions a = hall();
            due.is("from " + from, a.start(0, from, 1000000), -1);
            due.is("none is ON", a.clock(), -1);
            due.is("the lot is OPEN", a.order(0, 0), 0);
        }
        due.is("from its reserve", hall().start(0, 100, 1), 100);
        due.is("from 10^9", hall().start(0, 1000000000L, 1000000), 100000);
    }

    private static void promise4FromOfAReserveOf0And10To9() {
        ClockAuctions a = new ClockAuctions();
        a.lot(0, 1, 0);
        a.lot(0, 1, 1000000000L);
        due.is("-1 is below 0", a.start(0, -1, 1), -1);
        due.is("10^9 - 1 is below 10^9", a.start(1, 999999999L, 1), -1);
        due.is("10^9 + 1 is above 10^9", a.start(1, 1000000001L, 1), -1);
        due.is("10^9 for 10^9", a.start(1, 1000000000L, 1), 100);
        a.tick(100);
        due.is("0 for 0", a.start(0, 0, 1), 100);
    }

    private static void promise4FromOfALessenedReserve() {
        ClockAuctions a = hall();
        a.start(0, 100, 1);
        a.tick(100);
        a.again(0);
        due.is("89 is below 90", a.start(0, 89, 1), -1);
        due.is("90 is not, and the end is that of 90", a.start(0, 90, 1), 100);
    }

    private static void promise4Step() {
        for (long step : Edges.outside(1, 1000000)) {
            ClockAuctions a = hall();
            due.is("step " + step, a.start(0, 200, step), -1);
            due.is("none is ON", a.clock(), -1);
        }
        due.is("step 1", hall().start(0, 200, 1), 10100);
        due.is("step 10^6", hall().start(0, 200, 1000000), 100);
    }

    private static void promise4End() {
        long[][] ends = {
            {100, 100, 1, 100}, {100, 101, 1, 200}, {100, 199, 100, 100}, {100, 200, 100, 200},
            {100, 201, 100, 200}, {100, 299, 100, 200}, {0, 0, 1, 100}, {0, 1, 1, 200}, {0, 999999, 1000000, 100},
            {0, 1000000, 1000000, 200}, {0, 99999, 1, 10000000}, {0, 100000, 1, -1}, {0, 999999999L, 10000, 10000000},
            {0, 1000000000L, 10000, -1}, {0, 1000000000L, 10001, 9999100}, {1, 100000, 1, 10000000}, {1, 100001, 1, -1},
            {0, 1000000000L, 1, -1}, {1000000000L, 1000000000L, 1000000, 100}};
        for (long[] e : ends) {
            ClockAuctions a = new ClockAuctions();
            a.lot(0, 1, e[0]);
            due.is("start(0, " + e[1] + ", " + e[2] + ") of " + e[0], a.start(0, e[1], e[2]), e[3]);
            due.is("whether it is ON", a.clock(), e[3] == -1 ? -1 : e[1]);
        }
    }

    private static void promise4Begins() {
        ClockAuctions a = running(250);
        a.press(1, 900);
        a.press(2, 0);
        a.tick(1);
        a.start(1, 500, 10);
        due.is("it begins with from", a.clock(), 500);
        due.is("at 0: nothing is behind now", a.outage(1, true), false);
        due.is("without presses", a.tick(1000), 0);
        due.is("and goes on", a.clock(), 400);
    }

    private static void promise7Length() {
        for (long ms : Edges.outside(1, 1000000)) {
            due.is("tick(" + ms + ") when none is ON", hall().tick(ms), -1);
            due.is("tick(" + ms + ") when one is ON", running(0).tick(ms), -1);
        }
        due.is("tick(1)", running(0).tick(1), 0);
        due.is("tick(1000000)", running(0).tick(1000000), 2);
    }

    private static void promise7RefusedDoesNotMoveTheDay() {
        for (long ms : Edges.outside(1, 1000000)) {
            ClockAuctions a = hall();
            a.rise(0, 0, 100);
            a.tick(9998);
            a.tick(ms);
            a.tick(1);
            due.is("9999 ago behind tick(" + ms + ")", a.fee(0), -1);
            a.tick(ms);
            due.is("nothing is looked at", a.fee(0), -1);
            a.tick(1);
            due.is("10000 ago", a.fee(0), 32);
        }
    }

    private static void promise7RefusedDoesNotMoveTheClock() {
        for (long ms : Edges.outside(1, 1000000)) {
            ClockAuctions a = running(99);
            a.press(3, 99);
            a.tick(ms);
            due.is("clock() behind tick(" + ms + ")", a.clock(), 1000);
            due.is("no press was looked at", a.winner(0), -1);
            due.is("the clock is at 99", a.outage(100, true), false);
            due.is("it is ON", a.tick(1), 1);
        }
    }

    private static void promise7GreatestLength() {
        ClockAuctions a = hall();
        a.rise(1, 0, 100);
        a.start(0, 100099, 1);
        due.is("tick(10^6)", a.tick(1000000), 0);
        due.is("10^4 steps of 1", a.clock(), 90099);
        due.is("the day went on", a.fee(1), 32);
        for (int i = 0; i < 8; i++) {
            due.is("tick(10^6)", a.tick(1000000), 0);
        }
        due.is("at 9 * 10^6", a.clock(), 10099);
        due.is("just before the end", a.tick(999999), 0);
        due.is("the last price", a.clock(), 100);
        due.is("the end is 10^7", a.tick(1), 2);
    }

    private static void promise7NoneOnMovesTheDay() {
        ClockAuctions a = hall();
        a.rise(0, 0, 100);
        due.is("tick(9999)", a.tick(9999), -1);
        due.is("not 10000 ago", a.fee(0), -1);
        due.is("tick(1)", a.tick(1), -1);
        due.is("10000 ago", a.fee(0), 32);
    }

    private static void promise7NoneOn() {
        ClockAuctions a = running(0);
        due.is("it is unsold", a.tick(1000), 2);
        due.is("then none is ON", a.tick(1), -1);
        a.start(1, 1000, 100);
        a.press(0, 0);
        due.is("it was sold", a.tick(1), 1);
        due.is("then none is ON", a.tick(1), -1);
    }

    private static void promise7StandsMovesTheDay() {
        ClockAuctions a = running(100);
        a.rise(1, 0, 100);
        a.press(1, 50);
        a.outage(0, true);
        due.is("the lot still is ON", a.tick(9999), 0);
        due.is("9999 ago", a.fee(1), -1);
        due.is("the lot still is ON", a.tick(1), 0);
        due.is("10000 ago", a.fee(1), 32);
        due.is("the clock did not go on", a.clock(), 900);
        due.is("no press was looked at", a.winner(0), -1);
        a.outage(0, false);
        due.is("it is when the clock goes on", a.tick(1), 1);
    }

    private static void promise7BeforeAndAtTheEnd() {
        due.is("just before the end", running(0).tick(999), 0);
        due.is("at the end", running(0).tick(1000), 2);
        due.is("behind the end", running(0).tick(1001), 2);
        ClockAuctions a = running(999);
        due.is("it is ON still", a.clock(), 100);
        due.is("the last millisecond", a.tick(1), 2);
        due.is("the record of it", a.record(0, 0), 2);
        due.is("one alone", a.record(1, 0), -1);
    }

    private static void promise7NotBeyondTheEnd() {
        ClockAuctions a = running(0);
        a.press(2, 999);
        due.is("far beyond the end", a.tick(1000000), 1);
        due.is("at the price of the press", a.price(0), 100);
    }

    private static void promise7PressAtTheClocksTime() {
        ClockAuctions a = running(0);
        a.press(0, 200);
        due.is("above the clock's time by one", a.tick(199), 0);
        due.is("of the clock's time", a.tick(1), 1);
        due.is("its price is that of 200", a.price(0), 800);
        ClockAuctions b = running(0);
        b.press(0, 199);
        b.tick(200);
        due.is("that of 199 is higher", b.price(0), 900);
        ClockAuctions c = running(0);
        c.press(0, 0);
        due.is("a press at 0", c.tick(1), 1);
        due.is("at what it began with", c.price(0), 1000);
    }

    private static void promise7PressBeforeTheEnd() {
        ClockAuctions a = running(999);
        a.press(1, 999);
        due.is("sold at the end, not unsold", a.tick(1), 1);
        due.is("winner(0)", a.winner(0), 1);
        due.is("price(0)", a.price(0), 100);
    }

    /** What the buyer held before counts; who is gone leaves the lot to the next. */
    private static void promise7SecondOfTheSameTick() {
        ClockAuctions a = hall();
        a.rise(1, 0, 200);
        a.start(0, 801, 1);
        a.press(0, 10);
        a.press(1, 20);
        due.is("800 FREE for 801", a.tick(30), 1);
        due.is("the next one", a.winner(0), 1);
        ClockAuctions b = hall();
        b.rise(1, 0, 200);
        b.start(0, 800, 1);
        b.press(0, 10);
        b.press(1, 20);
        due.is("800 FREE for 800", b.tick(30), 1);
        due.is("the first one", b.winner(0), 0);
        due.is("all is held", b.held(0), 1000);
    }

    private static void promise12NoLotIsOn() {
        ClockAuctions a = hall();
        due.is("before any is ON: on", a.outage(0, true), false);
        due.is("before any is ON: not on", a.outage(0, false), false);
        a.start(0, 1000, 100);
        due.is("it did not take hold", a.tick(1000), 2);
        due.is("behind one: on", a.outage(0, true), false);
        due.is("behind one: not on", a.outage(0, false), false);
        due.is("the next clock goes on", a.start(1, 1000, 100), 1000);
        due.is("it does not stand", a.outage(0, false), false);
    }

    private static void promise12StandsAlready() {
        ClockAuctions a = running(500);
        due.is("on", a.outage(100, true), true);
        due.is("on again", a.outage(0, true), false);
        due.is("on again, further back", a.outage(100, true), false);
        due.is("what is refused does not go back", a.clock(), 600);
        due.is("not on", a.outage(0, false), true);
        due.is("on once more", a.outage(100, true), true);
        due.is("it goes back again", a.clock(), 700);
    }

    private static void promise12DoesNotStandAlready() {
        ClockAuctions a = running(500);
        due.is("not on at first", a.outage(0, false), false);
        a.outage(0, true);
        due.is("not on", a.outage(0, false), true);
        due.is("not on again", a.outage(0, false), false);
        due.is("it goes on all the same", a.tick(100), 0);
        due.is("clock()", a.clock(), 400);
    }

    private static void promise12HowFarBack() {
        for (long ms : Edges.outside(0, 250)) {
            ClockAuctions a = running(250);
            due.is("outage(" + ms + ", true) at 250", a.outage(ms, true), false);
            due.is("it does not stand", a.outage(0, false), false);
            due.is("it is not back", a.clock(), 800);
            a.tick(50);
            due.is("it goes on from 250", a.clock(), 700);
        }
        due.is("outage(0, true) at 250", running(250).outage(0, true), true);
        due.is("outage(250, true) at 250", running(250).outage(250, true), true);
    }

    private static void promise12HowFarBackAtZero() {
        due.is("outage(1, true) at 0", running(0).outage(1, true), false);
        due.is("outage(-1, true) at 0", running(0).outage(-1, true), false);
        due.is("outage(0, true) at 0", running(0).outage(0, true), true);
        due.is("outage(1, true) at 1", running(1).outage(1, true), true);
        due.is("outage(2, true) at 1", running(1).outage(2, true), false);
    }

    private static void promise12NotOnTakes0() {
        for (long ms : Edges.outside(0, 0)) {
            ClockAuctions a = running(250);
            a.outage(0, true);
            due.is("outage(" + ms + ", false)", a.outage(ms, false), false);
            due.is("it stands still", a.tick(100), 0);
            due.is("clock()", a.clock(), 800);
            due.is("outage(0, false)", a.outage(0, false), true);
        }
    }

    private static void promise12LastHundred() {
        long[][] cases = {
            {300, 0, 700}, {299, 0, 800}, {301, 0, 700}, {300, 1, 800}, {300, 100, 800}, {300, 101, 900},
            {399, 99, 700}, {399, 100, 800}, {100, 0, 900}, {100, 1, 1000}, {99, 0, 1000}, {250, 250, 1000},
            {999, 0, 100}, {999, 999, 1000}};
        for (long[] c : cases) {
            ClockAuctions a = running(c[0]);
            a.outage(c[1], true);
            due.is("clock() behind outage(" + c[1] + ", true) at " + c[0], a.clock(), c[2]);
            a.outage(0, false);
            a.tick(99);
            due.is("99 later", a.clock(), c[2]);
            due.is("100 later: 2 at the end", a.tick(1), c[2] == 100 ? 2 : 0);
            due.is("100 later", a.clock(), c[2] == 100 ? -1 : c[2] - 100);
        }
    }

    private static void promise12PressesOfThatTime() {
        long[][] cases = {{199, 1}, {200, 0}, {201, 0}, {250, 0}, {299, 0}, {300, 0}, {999, 0}, {0, 1}};
        for (long[] c : cases) {
            ClockAuctions a = running(290);
            a.press(0, c[0]);
            a.outage(20, true);
            a.outage(0, false);
            due.is("a press at " + c[0] + " is there behind the outage", a.press(0, c[0]), c[1] == 0);
            due.is("it can be", a.press(0, c[0]), false);
        }
    }

    private static void promise12RefusedKeepsPresses() {
        ClockAuctions a = running(250);
        a.press(0, 300);
        a.outage(251, true);
        a.outage(-1, true);
        a.outage(0, false);
        due.is("the press is there", a.press(0, 300), false);
        a.outage(0, true);
        due.is("a press cannot come now", a.press(0, 100), false);
        a.outage(0, false);
        due.is("it is gone behind the one that was not refused", a.tick(100), 0);
        due.is("at 300 without a press", a.winner(0), -1);
    }

    private static void promise12GoesOnFromThere() {
        ClockAuctions a = running(450);
        a.press(1, 399);
        a.press(2, 400);
        a.outage(0, true);
        a.outage(0, false);
        due.is("presses before that time are looked at when it goes on", a.tick(1), 1);
        due.is("winner(0)", a.winner(0), 1);
        due.is("price(0)", a.price(0), 700);
    }

    private static void promise12EndAfterAnOutage() {
        ClockAuctions a = running(999);
        a.outage(999, true);
        a.outage(0, false);
        due.is("the end has not changed", a.press(0, 1000), false);
        due.is("just before it", a.tick(999), 0);
        due.is("at it", a.tick(1), 2);
    }

    private static void promise13NoLotIsOn() {
        ClockAuctions a = hall();
        due.is("before any is ON", a.clock(), -1);
        a.start(0, 1000, 100);
        a.tick(1000);
        due.is("behind one that is unsold", a.clock(), -1);
        a.start(1, 1000, 100);
        a.press(0, 0);
        a.tick(1);
        due.is("behind one that was sold", a.clock(), -1);
        ClockAuctions b = new ClockAuctions();
        b.lot(0, 1, 0);
        b.start(0, 0, 1);
        due.is("a price of 0 is one", b.clock(), 0);
    }

    private static void promise13Hundreds() {
        due.is("at 0", running(0).clock(), 1000);
        due.is("at 1", running(1).clock(), 1000);
        due.is("at 99", running(99).clock(), 1000);
        due.is("at 100", running(100).clock(), 900);
        due.is("at 199", running(199).clock(), 900);
        due.is("at 200", running(200).clock(), 800);
    }

    private static void promise13BeforeTheEnd() {
        due.is("at its reserve", running(900).clock(), 100);
        due.is("just before its end", running(999).clock(), 100);
        due.is("at its end", running(1000).clock(), -1);
        ClockAuctions a = hall();
        a.start(0, 1000, 101);
        a.tick(899);
        due.is("the last price that is not below the reserve", a.clock(), 192);
        due.is("at its end", a.tick(1), 2);
        ClockAuctions b = hall();
        b.start(0, 1000000000L, 1000000);
        b.tick(99999);
        due.is("999 steps of 10^6", b.clock(), 1000000);
    }
}
