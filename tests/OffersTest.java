/** Promise 14 (rise), and what the Terms say of OFFERS. */
public final class OffersTest {
    private static final Due due = new Due();

    public static void main(String[] args) {
        promise14UnknownFirst();
        promise14ClosedLots();
        promise14TooLow();
        promise14ATwentieth();
        promise14NotFree();
        promise14TakesThePlace();
        offersAreSoldWhenTheyStood();
        due.end();
    }

    private static ClockAuctions hall(long reserve) {
        ClockAuctions a = new ClockAuctions();
        a.lot(0, 1, reserve);
        a.lot(0, 1, reserve);
        a.buyer(1000);
        a.buyer(1000000000000L);
        return a;
    }

    private static void promise14UnknownFirst() {
        ClockAuctions a = hall(10);
        due.is("no such lot", a.rise(2, 0, 10), 1);
        due.is("lot -1", a.rise(-1, 0, 10), 1);
        due.is("no such buyer", a.rise(0, 2, 10), 1);
        due.is("buyer -1", a.rise(0, -1, 10), 1);
        a.back(0);
        due.is("1 comes before 2", a.rise(0, 2, -1), 1);
        due.is("2 comes before 3", a.rise(0, 0, -1), 2);
        due.is("3 comes before 4", a.rise(1, 0, -1), 3);
        due.is("1 comes before 4", a.rise(1, 9, 5000), 1);
    }

    private static void promise14ClosedLots() {
        ClockAuctions a = hall(10);
        a.start(0, 10, 1);
        due.is("ON", a.rise(0, 0, 10), 2);
        a.tick(100);
        due.is("UNSOLD", a.rise(0, 0, 10), 2);
        a.back(0);
        due.is("BACK", a.rise(0, 0, 10), 2);
        due.is("OPEN", a.rise(1, 0, 10), 0);
        due.is("OFFERED", a.rise(1, 0, 11), 0);
        a.tick(10000);
        due.is("SOLD", a.rise(1, 0, 500), 2);
    }

    private static void promise14TooLow() {
        ClockAuctions a = hall(10);
        due.is("below the reserve", a.rise(0, 0, 9), 3);
        due.is("far below", a.rise(0, 0, Long.MIN_VALUE), 3);
        due.is("it is OPEN still", a.winner(0), -1);
        due.is("at the reserve", a.rise(0, 0, 10), 0);
        ClockAuctions b = hall(0);
        due.is("below 0", b.rise(0, 0, -1), 3);
        due.is("for nothing", b.rise(0, 0, 0), 0);
        due.is("at least 1 more", b.rise(0, 0, 0), 3);
        due.is("1 more", b.rise(0, 0, 1), 0);
    }

    private static void promise14ATwentieth() {
        long[][] steps = {{19, 20}, {20, 21}, {39, 40}, {40, 42}, {59, 61}, {60, 63}, {800, 840}};
        for (long[] s : steps) {
            ClockAuctions a = hall(0);
            a.rise(0, 0, s[0]);
            due.is("too low on " + s[0], a.rise(0, 1, s[1] - 1), 3);
            due.is("the last one stays", a.winner(0), 0);
            due.is("enough on " + s[0], a.rise(0, 1, s[1]), 0);
            due.is("the last one now", a.winner(0), 1);
        }
        ClockAuctions a = hall(0);
        a.rise(0, 1, 1000000000000L);
        due.is("too low on 10^12", a.rise(0, 1, 1049999999999L), 3);
        due.is("too high for anyone", a.rise(0, 1, 1050000000000L), 4);
        due.is("far too high", a.rise(0, 1, Long.MAX_VALUE), 4);
    }

    private static void promise14NotFree() {
        ClockAuctions a = hall(0);
        due.is("more than his credit", a.rise(0, 0, 1001), 4);
        due.is("his credit", a.rise(0, 0, 900), 0);
        due.is("his own offer counts as free", a.rise(0, 0, 1000), 0);
        due.is("but no more than that", a.rise(0, 0, 1050), 4);
        due.is("not for another lot", a.rise(1, 0, 1), 4);
        due.is("held(0)", a.held(0), 1000);
        due.is("another buyer", a.rise(0, 1, 1050), 0);
        due.is("the money is free again", a.rise(1, 0, 1000), 0);
        due.is("and held by his new offer", a.rise(0, 0, 1103), 4);

        ClockAuctions b = hall(0);
        b.rise(0, 1, 990);
        due.is("another's offer does not count as his", b.rise(0, 0, 1040), 4);
    }

    private static void promise14TakesThePlace() {
        ClockAuctions a = hall(5);
        a.rise(0, 0, 100);
        a.rise(0, 1, 200);
        due.is("winner(0)", a.winner(0), 1);
        due.is("price(0)", a.price(0), 200);
        due.is("held(0)", a.held(0), 0);
        due.is("held(1)", a.held(1), 200);
        due.is("an offer tells no record", a.record(0, 0), -1);
        due.is("an OFFERED lot does not go on the clock", a.start(0, 300, 1), -1);
    }

    private static void offersAreSoldWhenTheyStood() {
        ClockAuctions a = hall(5);
        a.tick(1);
        a.rise(1, 0, 100);
        a.tick(5000);
        a.rise(0, 0, 50);
        a.rise(1, 1, 200);
        a.tick(9999);
        due.is("9999 ago", a.fee(1), -1);
        due.is("what is refused is not the last offer", a.rise(1, 1, 201), 3);
        due.is("none is ON", a.tick(1), -1);
        due.is("10000 ago", a.fee(1), 34);
        due.is("the other too", a.fee(0), 31);
        due.is("the least lot first", a.record(0, 1), 0);
        due.is("record 0", a.record(0, 0), 3);
        due.is("its buyer", a.record(0, 2), 0);
        due.is("its price", a.record(0, 3), 50);
        due.is("record 1", a.record(1, 1), 1);
        due.is("its buyer", a.record(1, 2), 1);
        due.is("its price", a.record(1, 3), 200);
        a.tick(10000);
        due.is("once", a.record(2, 0), -1);

        ClockAuctions b = hall(5);
        b.rise(0, 0, 10);
        b.start(1, 100, 1);
        b.outage(0, true);
        due.is("the clock stands", b.tick(10000), 0);
        due.is("the day goes on", b.fee(0), 31);
    }
}
