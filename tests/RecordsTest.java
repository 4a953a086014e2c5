/** Promises 24 (record) and 25 (chained). */
public final class RecordsTest {
    private static final Due due = new Due();

    public static void main(String[] args) {
        promise24EverySort();
        promise24Refused();
        promise24PriceModulo();
        promises24And25AllThatLotsCanTell();
        due.end();
    }

    private static void isRecord(ClockAuctions a, int k, int sort, int lot, int buyer, long price, long link) {
        due.is("sort of " + k, a.record(k, 0), sort);
        due.is("lot of " + k, a.record(k, 1), lot);
        due.is("buyer of " + k, a.record(k, 2), buyer);
        due.is("price of " + k, a.record(k, 3), price);
        due.is("chain number of " + k, a.record(k, 4), link);
        due.is("chained behind " + k, a.chained(), true);
        due.is("no more than " + k, a.record(k + 1, 0), -1);
    }

    private static void promise24EverySort() {
        ClockAuctions a = new ClockAuctions();
        due.is("chained without records", a.chained(), true);
        a.lot(0, 10, 50);
        a.lot(0, 10, 50);
        a.lot(0, 10, 0);
        a.lot(0, 10, 0);
        a.buyer(10000);
        a.buyer(10000);
        a.start(0, 100, 10);
        a.press(1, 100);
        a.tick(100);
        isRecord(a, 0, 1, 0, 1, 90, 31 + 7 + 6 + 90);
        a.start(1, 50, 1);
        a.tick(100);
        isRecord(a, 1, 2, 1, -1, 0, 31 * 134 + 14 + 5);
        a.rise(2, 0, 70);
        a.tick(10000);
        isRecord(a, 2, 3, 2, 0, 70, 31 * 4173 + 21 + 10 + 3 + 70);
        a.bid(1, 33);
        a.on(0, 3);
        a.sets(2);
        isRecord(a, 3, 4, 3, 1, 33, 31 * 129467 + 28 + 15 + 6 + 33 - 4 * 1000003);
        a.part(0, 1);
        isRecord(a, 4, 5, 0, 1, 9, 31 * 13547 + 35 + 6 + 9);
        a.again(1);
        isRecord(a, 5, 6, 1, -1, 45, (31 * 420007 + 42 + 5 + 45) % 1000003);
        long before = a.record(5, 4);
        a.back(1);
        isRecord(a, 6, 7, 1, -1, 0, (31 * before + 49 + 5) % 1000003);
    }

    private static void promise24Refused() {
        ClockAuctions a = new ClockAuctions();
        due.is("there is none", a.record(0, 4), -1);
        a.lot(0, 1, 0);
        a.back(0);
        due.is("record 0", a.record(0, 0), 7);
        due.is("what -1", a.record(0, -1), -1);
        due.is("what 5", a.record(0, 5), -1);
        due.is("record -1", a.record(-1, 0), -1);
        due.is("record 1", a.record(1, 0), -1);
        due.is("record 2^31 - 1", a.record(Integer.MAX_VALUE, 4), -1);
        due.is("record -2^31", a.record(Integer.MIN_VALUE, 4), -1);
    }

    private static void promise24PriceModulo() {
        ClockAuctions a = new ClockAuctions();
        a.lot(0, 1, 0);
        a.lot(0, 1, 0);
        a.buyer(1000000000000L);
        a.rise(0, 0, 999999999999L);
        a.tick(10000);
        due.is("price modulo 10^9", a.record(0, 3), 999999999L);
        due.is("the chain number has the whole price", a.record(0, 4), (31 + 21 + 3 + 999999999999L) % 1000003);
    }

    /** Four records of each lot: unsold, open again, then sold and parted or unsold and back. */
    private static void promises24And25AllThatLotsCanTell() {
        ClockAuctions a = new ClockAuctions();
        for (int i = 0; i < 60; i++) {
            a.lot(0, 10, 0);
        }
        a.buyer(0);
        for (int i = 0; i < 60; i++) {
            a.start(i, 0, 1);
            a.tick(100);
            a.again(i);
            a.start(i, 0, 1);
            a.tick(100);
            a.back(i);
        }
        due.is("record 239", a.record(239, 0), 7);
        due.is("record 239", a.record(239, 1), 59);
        due.is("record 240", a.record(240, 0), -1);
        due.is("chained", a.chained(), true);
    }
}
