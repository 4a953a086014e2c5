/** Edges of promises 24 (record) and 25 (chained), and of what the Terms say of RECORDS. */
public final class RecordEdgesTest {
    private static final int MIN = Integer.MIN_VALUE;
    private static final int MAX = Integer.MAX_VALUE;
    private static final Due due = new Due();

    public static void main(String[] args) {
        promise24K();
        promise24What();
        promise24NoneYet();
        promise24PriceModulo();
        promise24PriceModuloInASet();
        promise24NoBuyer();
        promise24LastLotAndLastBuyer();
        promise24EachCallThatTells();
        promise24CallsThatTellNothing();
        termsChainBegins();
        termsChainModulo();
        termsChainOfAnUnsoldLot();
        termsChainGoesOn();
        termsChainOfTheWholePrice();
        promise24AllThatLotsCanTell();
        promise24SoldAndPartedBySixty();
        promise25Always();
        due.end();
    }

    /** Lots with a reserve of 0, buyers with 10^12. */
    private static ClockAuctions hall(int lots, int buyers) {
        ClockAuctions a = new ClockAuctions();
        for (int i = 0; i < lots; i++) {
            a.lot(0, 10, 0);
        }
        for (int i = 0; i < buyers; i++) {
            a.buyer(1000000000000L);
        }
        return a;
    }

    private static void isRecord(ClockAuctions a, int k, long... want) {
        for (int what = 0; what < want.length; what++) {
            due.is("record(" + k + ", " + what + ")", a.record(k, what), want[what]);
        }
    }

    private static void promise24K() {
        ClockAuctions a = hall(3, 1);
        a.back(0);
        a.back(1);
        for (int k : Edges.noneOf(2)) {
            for (int what = 0; what < 5; what++) {
                due.is("record(" + k + ", " + what + ")", a.record(k, what), -1);
            }
        }
        due.is("the first", a.record(0, 1), 0);
        due.is("the last", a.record(1, 1), 1);
    }

    private static void promise24What() {
        ClockAuctions a = hall(1, 1);
        a.rise(0, 0, 8);
        a.tick(10000);
        for (int what : new int[] {-1, 5, 6, 10, MIN, MAX}) {
            due.is("record(0, " + what + ")", a.record(0, what), -1);
        }
        isRecord(a, 0, 3, 0, 0, 8, 31 + 21 + 3 + 8);
    }

    private static void promise24NoneYet() {
        ClockAuctions a = hall(2, 1);
        a.start(0, 5, 1);
        a.rise(1, 0, 5);
        for (int what = -1; what <= 5; what++) {
            due.is("record(0, " + what + ")", a.record(0, what), -1);
        }
    }

    private static void promise24PriceModulo() {
        long[][] cases = {
            {0, 0}, {999999999L, 999999999L}, {1000000000L, 0}, {1000000001L, 1}, {2000000000L, 0}, {4294967296L, 294967296L},
            {999999999999L, 999999999L}, {1000000000000L, 0}};
        for (long[] c : cases) {
            ClockAuctions a = hall(1, 1);
            a.rise(0, 0, c[0]);
            a.tick(10000);
            due.is(c[0] + " modulo 10^9", a.record(0, 3), c[1]);
            due.is("price(0) is whole", a.price(0), c[0]);
        }
    }

    private static void promise24PriceModuloInASet() {
        ClockAuctions a = hall(2, 1);
        a.bid(0, 1000000007L);
        a.on(0, 1);
        a.on(0, 0);
        a.sets(2);
        isRecord(a, 0, 4, 0, 0, 7);
        isRecord(a, 1, 4, 1, 0, 0);
        ClockAuctions b = hall(1, 1);
        b.start(0, 1000000000L, 1000000);
        b.press(0, 0);
        b.tick(1);
        isRecord(b, 0, 1, 0, 0, 0);
    }

    private static void promise24NoBuyer() {
        ClockAuctions a = new ClockAuctions();
        a.lot(0, 1, 70);
        a.lot(0, 1, 80);
        a.buyer(1000);
        a.start(0, 70, 1);
        a.tick(100);
        a.again(0);
        a.rise(1, 0, 90);
        a.back(1);
        isRecord(a, 0, 2, 0, -1, 0);
        isRecord(a, 1, 6, 0, -1, 63);
        isRecord(a, 2, 7, 1, -1, 0);
    }

    private static void promise24LastLotAndLastBuyer() {
        ClockAuctions a = hall(60, 30);
        a.rise(59, 29, 1000);
        a.tick(10000);
        isRecord(a, 0, 3, 59, 29, 1000, 31 + 21 + 5 * 59 + 3 * 30 + 1000);
    }

    private static void promise24EachCallThatTells() {
        ClockAuctions a = EachState.hall();
        int[] sorts = {1, 1, 5, 2, 2, 2, 2, 7, 6, 6, 2, 7, 7, 4, 4, 3};
        int[] lots = {3, 13, 13, 7, 10, 11, 12, 10, 11, 12, 12, 8, 9, 5, 6, 4};
        int[] buyers = {1, 2, 2, -1, -1, -1, -1, -1, -1, -1, -1, -1, -1, 1, 1, 0};
        long[] prices = {150, 200, 80, 0, 0, 0, 0, 0, 90, 90, 0, 0, 0, 500, 0, 300};
        long link = 1;
        for (int k = 0; k < EachState.RECORDS; k++) {
            link = (31 * link + 7 * sorts[k] + 5 * lots[k] + 3 * (buyers[k] + 1) + prices[k]) % 1000003;
            isRecord(a, k, sorts[k], lots[k], buyers[k], prices[k], link);
        }
        due.is("no more", a.record(EachState.RECORDS, 0), -1);
        due.is("chained()", a.chained(), true);
    }

    private static void promise24CallsThatTellNothing() {
        ClockAuctions a = hall(3, 2);
        a.start(0, 1000, 1);
        a.press(0, 500);
        a.delay(0, 5);
        a.tick(100);
        a.outage(50, true);
        a.outage(0, false);
        a.rise(1, 0, 5);
        a.rise(1, 1, 10);
        a.bid(0, 5);
        a.on(0, 2);
        a.back(9);
        a.again(1);
        a.part(1, 5);
        a.sets(1);
        a.bid(1, 1);
        due.is("no record", a.record(0, 0), -1);
        due.is("chained()", a.chained(), true);
    }

    private static void termsChainBegins() {
        ClockAuctions a = hall(1, 1);
        a.rise(0, 0, 0);
        a.tick(10000);
        due.is("31 times 1, 7 times 3, 5 times 0, 3 times 1, and 0", a.record(0, 4), 55);
        ClockAuctions b = hall(1, 1);
        b.back(0);
        due.is("31 times 1, 7 times 7, 5 times 0, 3 times 0, and 0", b.record(0, 4), 80);
        ClockAuctions c = hall(2, 2);
        c.rise(1, 1, 2);
        c.tick(10000);
        due.is("31 times 1, 7 times 3, 5 times 1, 3 times 2, and 2", c.record(0, 4), 65);
    }

    private static void termsChainModulo() {
        long[][] cases = {{999947, 1000002}, {999948, 0}, {999949, 1}, {1999950, 1000002}, {1999951, 0}};
        for (long[] c : cases) {
            ClockAuctions a = hall(2, 1);
            a.rise(0, 0, c[0]);
            a.tick(10000);
            due.is("55 and " + c[0] + " modulo 1000003", a.record(0, 4), c[1]);
            a.back(1);
            due.is("the next goes on from there", a.record(1, 4), (31 * c[1] + 49 + 5) % 1000003);
            due.is("chained()", a.chained(), true);
        }
    }

    private static void termsChainOfAnUnsoldLot() {
        ClockAuctions a = hall(1, 0);
        a.start(0, 0, 1);
        a.tick(100);
        due.is("UNSOLD: 31, 14, 0, 0 and 0", a.record(0, 4), 45);
        a.again(0);
        due.is("open again: 31 * 45, 42, 0, 0 and 0", a.record(1, 4), 31 * 45 + 42);
    }

    private static void termsChainGoesOn() {
        ClockAuctions a = hall(60, 0);
        long link = 1;
        for (int lot = 0; lot < 60; lot++) {
            a.back(lot);
            link = (31 * link + 49 + 5 * lot) % 1000003;
            due.is("record(" + lot + ", 4)", a.record(lot, 4), link);
        }
    }

    private static void termsChainOfTheWholePrice() {
        for (long cents : new long[] {1000000000L, 2147483648L, 4294967296L, 999999999999L, 1000000000000L}) {
            ClockAuctions a = hall(1, 1);
            a.bid(0, cents);
            a.on(0, 0);
            a.sets(2);
            due.is("the chain number of " + cents, a.record(0, 4), (31 + 28 + 3 + cents) % 1000003);
        }
    }

    /** No lot can tell more than four: unsold, open again, then unsold and back, or sold and parted. */
    private static void promise24AllThatLotsCanTell() {
        ClockAuctions a = hall(60, 0);
        for (int lot = 0; lot < 60; lot++) {
            for (int time = 0; time < 2; time++) {
                a.start(lot, 0, 1);
                a.tick(100);
                if (time == 0) {
                    a.again(lot);
                }
            }
            a.back(lot);
        }
        isRecord(a, 236, 2, 59, -1, 0);
        isRecord(a, 237, 6, 59, -1, 0);
        isRecord(a, 238, 2, 59, -1, 0);
        isRecord(a, 239, 7, 59, -1, 0);
        due.is("record(240, 0)", a.record(240, 0), -1);
        due.is("chained()", a.chained(), true);
    }

    private static void promise24SoldAndPartedBySixty() {
        ClockAuctions a = hall(30, 1);
        for (int lot = 0; lot < 30; lot++) {
            a.start(lot, 0, 1);
            a.tick(100);
            a.again(lot);
            a.start(lot, 0, 1);
            a.press(0, 0);
            a.tick(1);
            a.part(lot, 5);
        }
        due.is("60 lots", a.lot(0, 1, 0), -1);
        isRecord(a, 118, 1, 29, 0, 0);
        isRecord(a, 119, 5, 29, 0, 0);
        due.is("record(120, 0)", a.record(120, 0), -1);
        due.is("chained()", a.chained(), true);
    }

    private static void promise25Always() {
        ClockAuctions a = new ClockAuctions();
        due.is("without records", a.chained(), true);
        a.lot(0, 10, 10);
        a.buyer(1000);
        due.is("still without", a.chained(), true);
        a.start(0, 10, 1);
        a.tick(100);
        due.is("one", a.chained(), true);
        a.again(0);
        due.is("two", a.chained(), true);
        a.start(0, 100, 1);
        a.press(0, 0);
        a.tick(1);
        due.is("three", a.chained(), true);
        a.part(0, 5);
        due.is("four", a.chained(), true);
        a.back(1);
        due.is("five", a.chained(), true);
        a.back(1);
        due.is("a refused call", a.chained(), true);
        due.is("five alone", a.record(5, 0), -1);
    }
}
