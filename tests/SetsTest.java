import java.util.ArrayList;
import java.util.List;
import java.util.Random;

/** Promises 15 (bid), 16 (on), 17 (sets), 18 (wins), 19 (sum) and 20 (proved). */
public final class SetsTest {
    private static final Due due = new Due();

    public static void main(String[] args) {
        promise15Bid();
        promise16On();
        promise17Refused();
        promise17GoodBids();
        promise17Purses();
        promise17FewestBids();
        promise17LesserBids();
        promise17Sells();
        promises18To20Latest();
        promise17AgainstAllSets(400, 6);
        promise17AgainstAllSets(60, 12);
        promise17AgainstAllSets(3, 18);
        due.end();
    }

    /** Lots with the reserves, buyers with the credits. */
    private static ClockAuctions hall(long[] reserves, long... credits) {
        ClockAuctions a = new ClockAuctions();
        for (long reserve : reserves) {
            a.lot(0, 1, reserve);
        }
        for (long credit : credits) {
            a.buyer(credit);
        }
        return a;
    }

    private static void bidOn(ClockAuctions a, int buyer, long cents, int... lots) {
        int bid = a.bid(buyer, cents);
        for (int lot : lots) {
            due.is("on(" + bid + ", " + lot + ")", a.on(bid, lot), true);
        }
    }

    private static void promise15Bid() {
        ClockAuctions a = hall(new long[] {0}, 0);
        due.is("no such buyer", a.bid(1, 0), -1);
        due.is("buyer -1", a.bid(-1, 0), -1);
        due.is("cents -1", a.bid(0, -1), -1);
        due.is("cents 10^12 + 1", a.bid(0, 1000000000001L), -1);
        due.is("more than his credit is no matter yet", a.bid(0, 1000000000000L), 0);
        for (int i = 1; i < 18; i++) {
            due.is("bid " + i, a.bid(0, 0), i);
        }
        due.is("bid 18", a.bid(0, 0), -1);
        a.sets(Long.MAX_VALUE);
        due.is("numbers begin anew", a.bid(0, 0), 0);
    }

    private static void promise16On() {
        ClockAuctions a = hall(new long[] {0, 0, 0, 0, 0, 0}, 1000);
        due.is("no bid yet", a.on(0, 0), false);
        a.bid(0, 5);
        due.is("no such bid", a.on(1, 0), false);
        due.is("bid -1", a.on(-1, 0), false);
        due.is("no such lot", a.on(0, 6), false);
        due.is("lot -1", a.on(0, -1), false);
        a.start(0, 0, 1);
        due.is("ON", a.on(0, 0), false);
        a.tick(100);
        due.is("UNSOLD", a.on(0, 0), false);
        a.back(1);
        due.is("BACK", a.on(0, 1), false);
        a.rise(2, 0, 1);
        due.is("OFFERED", a.on(0, 2), false);
        a.tick(10000);
        due.is("SOLD", a.on(0, 2), false);
        due.is("OPEN", a.on(0, 3), true);
        due.is("it has that", a.on(0, 3), false);
        due.is("another", a.on(0, 4), true);
        a.again(0);
        due.is("open again", a.on(0, 0), true);
        a.sets(2);
        due.is("all bids are gone", a.on(0, 5), false);
        due.is("it was for all three", a.winner(0) + a.winner(3) + a.winner(4), 0);
    }

    private static void promise17Refused() {
        ClockAuctions a = hall(new long[] {0}, 1000);
        due.is("no bids", a.sets(Long.MAX_VALUE), -1);
        bidOn(a, 0, 5, 0);
        due.is("2 above 1", a.sets(1), -1);
        due.is("2 above -1", a.sets(-1), -1);
        due.is("2 above -2^63", a.sets(Long.MIN_VALUE), -1);
        due.is("its bids stay", a.on(0, 0), false);
        due.is("its lots stay", a.winner(0), -1);
        due.is("2 is not above 2", a.sets(2), 1);
        for (int i = 0; i < 18; i++) {
            a.bid(0, 1);
        }
        due.is("2^18 above 2^18 - 1", a.sets(262143), -1);
        due.is("2^18", a.sets(262144), 0);
    }

    private static void promise17GoodBids() {
        ClockAuctions a = hall(new long[] {10, 20, 0, 0}, 1000, 1000);
        bidOn(a, 0, 500);
        bidOn(a, 0, 29, 0, 1);
        bidOn(a, 1, 50, 2);
        bidOn(a, 1, 40, 3);
        a.rise(2, 0, 1);
        due.is("no lots, below the reserves, not OPEN: one is good", a.sets(16), 1);
        due.is("wins(0)", a.wins(0), false);
        due.is("wins(1)", a.wins(1), false);
        due.is("wins(2)", a.wins(2), false);
        due.is("wins(3)", a.wins(3), true);
        bidOn(a, 0, 30, 0, 1);
        due.is("at the reserves", a.sets(2), 1);
    }

    private static void promise17Purses() {
        ClockAuctions a = hall(new long[] {0, 0, 0, 0}, 100, 60);
        a.rise(3, 0, 10);
        bidOn(a, 0, 50, 0);
        bidOn(a, 0, 41, 1);
        bidOn(a, 0, 40, 1);
        bidOn(a, 1, 61, 2);
        bidOn(a, 1, 60, 2);
        due.is("what is FREE is 90 and 60", a.sets(32), 3);
        due.is("wins(0)", a.wins(0), true);
        due.is("wins(1): 91 is above 90", a.wins(1), false);
        due.is("wins(2): 90 is not", a.wins(2), true);
        due.is("wins(3)", a.wins(3), false);
        due.is("wins(4)", a.wins(4), true);
        due.is("sum", a.sum(), 150);
        due.is("held(0)", a.held(0), 100);
        due.is("held(1)", a.held(1), 60);
    }

    private static void promise17FewestBids() {
        ClockAuctions a = hall(new long[] {0, 0, 0}, 1000, 1000);
        bidOn(a, 0, 10, 0);
        bidOn(a, 0, 20, 1);
        bidOn(a, 1, 30, 0, 1);
        bidOn(a, 1, 0, 2);
        due.is("one of 30, not two; and not one for nothing", a.sets(16), 1);
        due.is("wins(2)", a.wins(2), true);
        due.is("the lot that was bid 0 for is OPEN", a.order(0, 0), 2);
    }

    private static void promise17LesserBids() {
        ClockAuctions a = hall(new long[] {0, 0, 0, 0}, 1000);
        bidOn(a, 0, 9, 3);
        bidOn(a, 0, 10, 0);
        bidOn(a, 0, 10, 0);
        bidOn(a, 0, 8, 2, 3);
        bidOn(a, 0, 20, 1);
        bidOn(a, 0, 20, 1);
        bidOn(a, 0, 9, 3);
        due.is("three", a.sets(128), 3);
        boolean[] want = {true, true, false, false, true, false, false};
        for (int i = 0; i < want.length; i++) {
            due.is("wins(" + i + ")", a.wins(i), want[i]);
        }

        ClockAuctions b = hall(new long[] {0, 0, 0, 0}, 1000);
        bidOn(b, 0, 10, 0, 1);
        bidOn(b, 0, 30, 0, 2);
        bidOn(b, 0, 20, 1, 2);
        bidOn(b, 0, 20, 2, 3);
        bidOn(b, 0, 0, 3);
        due.is("1 alone against 0 and 3", b.sets(32), 1);
        due.is("wins(1)", b.wins(1), true);

        ClockAuctions c = hall(new long[] {0, 0, 0, 0}, 1000);
        bidOn(c, 0, 10, 1);
        bidOn(c, 0, 15, 0, 1);
        bidOn(c, 0, 15, 2);
        bidOn(c, 0, 20, 0, 2);
        due.is("0 and 3 against 1 and 2", c.sets(16), 2);
        due.is("the one with the lesser bid first", c.wins(0) && c.wins(3), true);
    }

    private static void promise17Sells() {
        ClockAuctions a = hall(new long[] {0, 0, 0, 0}, 1000, 2000000000L);
        bidOn(a, 1, 1500000000L, 3, 1);
        bidOn(a, 0, 70, 2, 0);
        due.is("sets", a.sets(4), 2);
        int[] lots = {1, 3, 0, 2};
        int[] buyers = {1, 1, 0, 0};
        long[] prices = {1500000000L, 0, 70, 0};
        long link = 1;
        for (int k = 0; k < 4; k++) {
            due.is("sort of " + k, a.record(k, 0), 4);
            due.is("lot of " + k, a.record(k, 1), lots[k]);
            due.is("buyer of " + k, a.record(k, 2), buyers[k]);
            due.is("price of " + k, a.record(k, 3), prices[k] % 1000000000L);
            link = (31 * link + 28 + 5 * lots[k] + 3 * (buyers[k] + 1) + prices[k]) % 1000003;
            due.is("chain number of " + k, a.record(k, 4), link);
            due.is("winner", a.winner(lots[k]), buyers[k]);
            due.is("price", a.price(lots[k]), prices[k]);
            due.is("SOLD", a.rise(lots[k], 0, 5), 2);
        }
        due.is("no more", a.record(4, 0), -1);
    }

    private static void promises18To20Latest() {
        ClockAuctions a = hall(new long[] {0, 0, 0}, 1000);
        due.is("wins before any", a.wins(0), false);
        due.is("sum before any", a.sum(), 0);
        due.is("proved before any", a.proved(), false);
        a.sets(5);
        due.is("proved behind a refused one", a.proved(), false);
        bidOn(a, 0, 5, 0);
        bidOn(a, 0, 7, 1);
        a.sets(4);
        due.is("wins(1)", a.wins(1), true);
        due.is("sum", a.sum(), 12);
        due.is("proved", a.proved(), true);
        due.is("wins(-1)", a.wins(-1), false);
        due.is("wins(2)", a.wins(2), false);
        due.is("wins(18)", a.wins(18), false);
        due.is("wins(32)", a.wins(32), false);
        due.is("wins(-32)", a.wins(-32), false);
        a.bid(0, 3);
        due.is("a later bid changes none", a.wins(1), true);
        due.is("refused", a.sets(1), -1);
        due.is("proved of the refused", a.proved(), false);
        due.is("wins of the one before", a.wins(1), true);
        due.is("sum of the one before", a.sum(), 12);
        due.is("none wins", a.sets(2), 0);
        due.is("proved again", a.proved(), true);
        due.is("wins now", a.wins(0), false);
        due.is("sum now", a.sum(), 0);
        bidOn(a, 0, 4, 2);
        a.back(2);
        due.is("a lot that went BACK", a.sets(2), 0);
    }

    /** Small numbers on few lots, so that many sets have the same sum. */
    private static void promise17AgainstAllSets(int runs, int bids) {
        Random random = new Random(17 * bids);
        for (int run = 0; run < runs; run++) {
            int lots = 3 + random.nextInt(6);
            long[] reserves = new long[lots];
            for (int i = 0; i < lots; i++) {
                reserves[i] = random.nextInt(4);
            }
            long[] credits = {random.nextInt(20), random.nextInt(40), 1000};
            int[] who = new int[bids];
            long[] cents = new long[bids];
            int[] lotSets = new int[bids];
            ClockAuctions a = hall(reserves, credits);
            for (int b = 0; b < bids; b++) {
                who[b] = random.nextInt(3);
                cents[b] = random.nextInt(10);
                lotSets[b] = random.nextInt(1 << lots) & random.nextInt(1 << lots);
                a.bid(who[b], cents[b]);
                for (int i = 0; i < lots; i++) {
                    if ((lotSets[b] >>> i & 1) != 0) {
                        a.on(b, i);
                    }
                }
            }
            List<Integer> want = bestSet(reserves, credits, who, cents, lotSets);
            due.is("run " + run + " of " + bids + " bids: sets", a.sets(1L << bids), want.size());
            for (int b = 0; b < bids; b++) {
                due.is("run " + run + " of " + bids + " bids: wins(" + b + ")", a.wins(b), want.contains(b));
            }
        }
    }

    private static List<Integer> bestSet(long[] reserves, long[] credits, int[] who, long[] cents, int[] lotSets) {
        List<Integer> best = new ArrayList<>();
        for (int mask = 1; mask < 1 << who.length; mask++) {
            if (isAllowed(mask, reserves, credits, who, cents, lotSets)) {
                List<Integer> set = new ArrayList<>();
                for (int b = 0; b < who.length; b++) {
                    if ((mask >>> b & 1) != 0) {
                        set.add(b);
                    }
                }
                if (isBetter(set, best, cents)) {
                    best = set;
                }
            }
        }
        return best;
    }

    private static boolean isAllowed(int mask, long[] reserves, long[] credits, int[] who, long[] cents, int[] lotSets) {
        int taken = 0;
        long[] spent = new long[credits.length];
        for (int b = 0; b < who.length; b++) {
            if ((mask >>> b & 1) == 0) {
                continue;
            }
            long least = 0;
            for (int i = 0; i < reserves.length; i++) {
                least += (lotSets[b] >>> i & 1) * reserves[i];
            }
            spent[who[b]] += cents[b];
            if (lotSets[b] == 0 || cents[b] < least || (taken & lotSets[b]) != 0 || spent[who[b]] > credits[who[b]]) {
                return false;
            }
            taken |= lotSets[b];
        }
        return true;
    }

    private static boolean isBetter(List<Integer> set, List<Integer> best, long[] cents) {
        long bySum = 0;
        for (int b : set) {
            bySum += cents[b];
        }
        for (int b : best) {
            bySum -= cents[b];
        }
        if (bySum != 0) {
            return bySum > 0;
        }
        if (set.size() != best.size()) {
            return set.size() < best.size();
        }
        for (int i = 0; i < set.size(); i++) {
            if (!set.get(i).equals(best.get(i))) {
                return set.get(i) < best.get(i);
            }
        }
        return false;
    }
}
