/** A hall with a lot in each state that there is, so that "for others" can be looked at for all of them. */
final class EachState {
    static final int OPEN = 0;
    static final int ON = 1;
    static final int OFFERED = 2;
    static final int BY_CLOCK = 3;
    static final int BY_OFFERS = 4;
    static final int LEAST_OF_SET = 5;
    static final int OTHER_OF_SET = 6;
    static final int UNSOLD = 7;
    static final int BACK_FROM_OPEN = 8;
    static final int BACK_FROM_OFFERED = 9;
    static final int BACK_FROM_UNSOLD = 10;
    static final int OPEN_AGAIN = 11;
    static final int UNSOLD_AGAIN = 12;
    static final int PARTED = 13;
    static final int OTHERS_OF_PART = 14;
    static final int LOTS = 15;
    static final int BUYERS = 3;
    static final int RECORDS = 16;

    static final String[] NAMES = {
        "OPEN", "ON", "OFFERED", "sold by the clock", "sold by offers", "least of a set", "other of a set",
        "UNSOLD", "BACK from OPEN", "BACK from OFFERED", "BACK from UNSOLD", "open again", "UNSOLD again",
        "parted", "others of a part"};

    private EachState() {
    }

    /** Lots of 10 grams with a reserve of 100, of the kind of their last digit; no lot is ON. */
    static ClockAuctions hallWithoutClock() {
        ClockAuctions a = new ClockAuctions();
        for (int i = 0; i < OTHERS_OF_PART; i++) {
            a.lot(i % 10, 10, 100);
        }
        for (int i = 0; i < BUYERS; i++) {
            a.buyer(1000000);
        }
        sellByClock(a);
        leaveUnsold(a);
        a.back(BACK_FROM_OPEN);
        a.rise(BACK_FROM_OFFERED, 0, 100);
        a.back(BACK_FROM_OFFERED);
        a.bid(1, 500);
        a.on(0, LEAST_OF_SET);
        a.on(0, OTHER_OF_SET);
        a.sets(2);
        a.rise(BY_OFFERS, 0, 300);
        a.tick(10000);
        a.rise(OFFERED, 2, 400);
        return a;
    }

    static ClockAuctions hall() {
        ClockAuctions a = hallWithoutClock();
        a.start(ON, 1000, 1);
        return a;
    }

    private static void sellByClock(ClockAuctions a) {
        a.start(BY_CLOCK, 150, 1);
        a.press(1, 0);
        a.press(2, 0);
        a.tick(1);
        a.start(PARTED, 200, 1);
        a.press(2, 0);
        a.tick(1);
        a.part(PARTED, 4);
    }

    private static void leaveUnsold(ClockAuctions a) {
        for (int lot : new int[] {UNSOLD, BACK_FROM_UNSOLD, OPEN_AGAIN, UNSOLD_AGAIN}) {
            a.start(lot, 100, 1);
            a.tick(100);
        }
        a.back(BACK_FROM_UNSOLD);
        a.again(OPEN_AGAIN);
        a.again(UNSOLD_AGAIN);
        a.start(UNSOLD_AGAIN, 90, 1);
        a.tick(100);
    }
}
