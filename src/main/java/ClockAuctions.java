/**
 * A fish auction: lots sold by a falling clock, by rising offers or in sets.
 * Money is in cents, weight in grams, time in milliseconds.
 */
public final class ClockAuctions {
    public static final int NONE = -1;

    private static final int MAX_LOTS = 60;
    private static final int MAX_BUYERS = 30;
    private static final int MAX_BIDS = 18;
    private static final int MAX_KIND = 9;
    private static final long MAX_GRAMS = 1000000000L;
    private static final long MAX_LOT_PRICE = 1000000000L;
    private static final long MAX_MONEY = 1000000000000L;
    private static final long MAX_STEP = 1000000L;
    private static final long MAX_END = 10000000L;
    private static final long MAX_PRESS = 20000000L;
    private static final long MAX_DELAY = 5000L;
    private static final long MAX_TICK = 1000000L;
    private static final int MAX_TURNS = 200;
    private static final long OFFER_STANDS_FOR = 10000L;
    private static final long SEED_FOR_ZERO = 88172645463325252L;

    private static final int STILL_ON = 0;
    private static final int WAS_SOLD = 1;
    private static final int WAS_UNSOLD = 2;

    private static final int RISE_TAKEN = 0;
    private static final int RISE_UNKNOWN = 1;
    private static final int RISE_CLOSED = 2;
    private static final int RISE_TOO_LOW = 3;
    private static final int RISE_NOT_FREE = 4;

    private final Lot[] lots;
    private final Buyer[] buyers;
    private final Bid[] bids;
    private final FallingClock running;
    private final Chain chain;
    private final SetSearch search;
    private int lotCount;
    private int buyerCount;
    private int bidCount;
    private long day;
    private boolean latestSetsStood;

    public ClockAuctions() {
        lots = new Lot[MAX_LOTS];
        buyers = new Buyer[MAX_BUYERS];
        bids = new Bid[MAX_BIDS];
        running = new FallingClock();
        chain = new Chain();
        search = new SetSearch();
    }

    // ---- lots and buyers

    public int lot(int kind, long grams, long reserve) {
        if (!isWithin(kind, 0, MAX_KIND) || !isWithin(grams, 1, MAX_GRAMS)) {
            return NONE;
        }
        if (!isWithin(reserve, 0, MAX_LOT_PRICE)) {
            return NONE;
        }
        return addLot(kind, grams, reserve);
    }

    public int buyer(long credit) {
        int number = buyerCount;
        if (number < 0 || number >= buyers.length || !isWithin(credit, 0, MAX_MONEY)) {
            return NONE;
        }
        buyers[number] = new Buyer(number, credit);
        buyerCount = number + 1;
        return number;
    }

    public int winner(int lot) {
        Lot it = lotAt(lot);
        return it == null || !it.hasTaker() ? NONE : it.taker;
    }

    public long price(int lot) {
        Lot it = lotAt(lot);
        return it == null || !it.hasTaker() ? NONE : it.cents;
    }

    public long left(int lot) {
        Lot it = lotAt(lot);
        return it == null ? NONE : it.grams;
    }

    public long held(int buyer) {
        Buyer it = buyerAt(buyer);
        return it == null ? NONE : it.credit - freeOf(it);
    }

    public long fee(int lot) {
        Lot it = lotAt(lot);
        if (it == null || it.state != State.SOLD) {
            return NONE;
        }
        return (it.cents + 49) / 50 + 30;
    }

    public int order(int kind2, int k) {
        if (k < 0) {
            return NONE;
        }
        for (int i = 0; i < lotCount; i++) {
            Lot it = lotAt(i);
            if (it != null && it.isOpenOf(kind2) && lotsAhead(it) == k) {
                return i;
            }
        }
        return NONE;
    }

    public int part(int lot, long grams) {
        Lot it = lotAt(lot);
        if (it == null || !it.soldByClock || it.parted || lotCount >= MAX_LOTS) {
            return NONE;
        }
        long whole = it.grams;
        if (grams <= 0 || grams >= whole) {
            return NONE;
        }
        it.parted = true;
        it.grams = grams;
        it.cents = shareOf(it.cents, grams, whole);
        chain.add(Chain.PARTED, lot, it.taker, it.cents);
        return addLot(it.kind, whole - grams, shareOf(it.reserve, whole - grams, whole));
    }

    public int again(int lot) {
        Lot it = lotAt(lot);
        if (it == null || it.state != State.UNSOLD || it.reopened) {
            return NONE;
        }
        it.reopened = true;
        it.reserve -= it.reserve / 10;
        it.state = State.OPEN;
        chain.add(Chain.REOPENED, lot, NONE, it.reserve);
        return 1;
    }

    public int back(int lot) {
        Lot it = lotAt(lot);
        if (it == null || !it.canGoBack()) {
            return NONE;
        }
        it.state = State.BACK;
        chain.add(Chain.TAKEN_BACK, lot, NONE, 0);
        return 1;
    }

    // ---- the day and the clock

    public int start(int lot, long from, long step) {
        Lot it = lotAt(lot);
        if (it == null || it.state != State.OPEN || running.lot != null) {
            return NONE;
        }
        if (!isWithin(from, it.reserve, MAX_LOT_PRICE) || !isWithin(step, 1, MAX_STEP)) {
            return NONE;
        }
        long end = FallingClock.endOf(from - it.reserve, step);
        if (end > MAX_END) {
            return NONE;
        }
        running.begin(it, from, step, end);
        it.state = State.ON;
        return (int) end;
    }

    public boolean delay(int buyer, long ms) {
        Buyer it = buyerAt(buyer);
        if (it == null || !isWithin(ms, 0, MAX_DELAY)) {
            return false;
        }
        it.lateBy = ms;
        return true;
    }

    public boolean press(int buyer, long ms) {
        Buyer it = buyerAt(buyer);
        if (it == null || running.lot == null || running.stands || !isWithin(ms, 0, MAX_PRESS)) {
            return false;
        }
        long time = Math.max(0L, ms - it.lateBy);
        if (time >= running.end || it.hasPressUpTo(time)) {
            return false;
        }
        it.pressTime = time;
        return true;
    }

    public int tick(long ms) {
        if (!isWithin(ms, 1, MAX_TICK)) {
            return NONE;
        }
        day += ms;
        int outcome = runClock(ms);
        sellRipeOffers();
        return outcome;
    }

    public boolean outage(long ms, boolean on) {
        if (running.lot == null || running.stands == on) {
            return false;
        }
        if (!isWithin(ms, 0, on ? running.time : 0L)) {
            return false;
        }
        running.stands = on;
        if (on) {
            running.goBackTo(running.time - ms);
            dropPressesFrom(running.time);
        }
        return true;
    }

    public long clock() {
        return running.lot == null ? NONE : running.priceAt(running.time);
    }

    public int tie(int lot, int k) {
        Lot it = lotAt(lot);
        if (it == null || k < 0) {
            return NONE;
        }
        int seen = 0;
        for (int i = 0; i < buyerCount; i++) {
            if (it.isTiedWith(i)) {
                if (seen == k) {
                    return i;
                }
                seen++;
            }
        }
        return NONE;
    }

    // ---- offers

    public int rise(int lot, int buyer, long cents) {
        Lot it = lotAt(lot);
        Buyer by = buyerAt(buyer);
        if (it == null || by == null) {
            return RISE_UNKNOWN;
        }
        if (it.state != State.OPEN && it.state != State.OFFERED) {
            return RISE_CLOSED;
        }
        if (cents < it.leastOffer()) {
            return RISE_TOO_LOW;
        }
        if (cents > freeOf(by) + it.offerOf(buyer)) {
            return RISE_NOT_FREE;
        }
        it.state = State.OFFERED;
        it.taker = buyer;
        it.cents = cents;
        it.offeredOn = day;
        return RISE_TAKEN;
    }

    // ---- sets

    public int bid(int buyer, long cents) {
        int number = bidCount;
        if (buyerAt(buyer) == null || number < 0 || number >= bids.length) {
            return NONE;
        }
        if (!isWithin(cents, 0, MAX_MONEY)) {
            return NONE;
        }
        bids[number] = new Bid(number, buyer, cents);
        bidCount = number + 1;
        return number;
    }

    public boolean on(int bid, int lot) {
        Bid it = bidAt(bid);
        Lot wanted = lotAt(lot);
        if (it == null || wanted == null || it.isFor(lot) || wanted.state != State.OPEN) {
            return false;
        }
        it.addLot(lot);
        return true;
    }

    public int sets(long nodes) {
        latestSetsStood = bidCount > 0 && bidCount <= MAX_BIDS && 1L << bidCount <= nodes;
        if (!latestSetsStood) {
            return NONE;
        }
        findWinners();
        for (int i = 0; i < bidCount; i++) {
            Bid it = bidAt(i);
            if (it != null && search.hasChosen(i)) {
                sellSet(it);
            }
        }
        bidCount = 0;
        return search.chosenCount();
    }

    public boolean wins(int bid) {
        return search.hasChosen(bid);
    }

    public long sum() {
        return search.bestSum;
    }

    public boolean proved() {
        return latestSetsStood;
    }

    // ---- records

    public int record(int k, int what) {
        Entry entry = chain.at(k);
        if (entry == null) {
            return NONE;
        }
        switch (what) {
            case 0:
                return entry.sort;
            case 1:
                return entry.lot;
            case 2:
                return entry.buyer;
            case 3:
                return (int) (entry.cents % 1000000000L);
            case 4:
                return entry.link;
            default:
                return NONE;
        }
    }

    public boolean chained() {
        return chain.isWhole();
    }

    // ---- play

    public int play(long seed, int turns) {
        if (!isWithin(turns, 1, MAX_TURNS)) {
            return NONE;
        }
        long x = seed == 0 ? SEED_FOR_ZERO : seed;
        for (int turn = 0; turn < turns; turn++) {
            x ^= x << 13;
            x ^= x >>> 7;
            x ^= x << 17;
            playTurn(x >>> 1);
        }
        return soldCount();
    }

    private void playTurn(long n) {
        int i = (int) (n / 6 % 64);
        long v = n / 384 % 100000;
        switch ((int) (n % 6)) {
            case 0:
                press(i % 32, v % 3000);
                break;
            case 1:
                tick(1 + v % 500);
                break;
            case 2:
                start(i, v, 1 + v % 97 * 5);
                break;
            case 3:
                rise(i, (int) (v % 32), v);
                break;
            case 4:
                if (!outage(0, true)) {
                    outage(0, false);
                }
                break;
            default:
                again(i);
                break;
        }
    }

    private int soldCount() {
        int count = 0;
        for (int i = 0; i < lotCount; i++) {
            Lot it = lotAt(i);
            if (it != null && it.state == State.SOLD) {
                count++;
            }
        }
        return count;
    }

    // ---- what the calls above share

    private static boolean isWithin(long value, long least, long most) {
        return value >= least && value <= most;
    }

    /** No overflow: an amount and the grams are at most 10^9 each. */
    private static long shareOf(long amount, long grams, long whole) {
        return whole <= 0 ? 0 : (amount * grams + whole - 1) / whole;
    }

    private Lot lotAt(int number) {
        return number < 0 || number >= lotCount || number >= lots.length ? null : lots[number];
    }

    private Buyer buyerAt(int number) {
        return number < 0 || number >= buyerCount || number >= buyers.length ? null : buyers[number];
    }

    private Bid bidAt(int number) {
        return number < 0 || number >= bidCount || number >= bids.length ? null : bids[number];
    }

    private int addLot(int kind, long grams, long reserve) {
        int number = lotCount;
        if (number < 0 || number >= lots.length) {
            return NONE;
        }
        lots[number] = new Lot(number, kind, grams, reserve);
        lotCount = number + 1;
        return number;
    }

    /** Summed anew each time, so that no way of selling, parting or freeing can forget it. */
    private long freeOf(Buyer buyer) {
        long free = buyer.credit;
        for (int i = 0; i < lotCount; i++) {
            Lot it = lotAt(i);
            if (it != null && it.hasTaker() && it.taker == buyer.number) {
                free -= it.cents;
            }
        }
        return free;
    }

    private int lotsAhead(Lot lot) {
        int count = 0;
        for (int i = 0; i < lotCount; i++) {
            Lot other = lotAt(i);
            if (other != null && other.isOpenOf(lot.kind) && other.goesBefore(lot)) {
                count++;
            }
        }
        return count;
    }

    private int runClock(long ms) {
        Lot lot = running.lot;
        if (lot == null) {
            return NONE;
        }
        if (running.stands) {
            return STILL_ON;
        }
        running.goOn(ms);
        dropPressesThatCannotPay();
        Buyer first = firstDuePress();
        if (first != null) {
            sellByClock(lot, first);
            return WAS_SOLD;
        }
        if (running.time < running.end) {
            return STILL_ON;
        }
        lot.state = State.UNSOLD;
        stopClock();
        chain.add(Chain.UNSOLD, lot.number, NONE, 0);
        return WAS_UNSOLD;
    }

    /** What buyers have free does not change while presses are looked at, so these can go first. */
    private void dropPressesThatCannotPay() {
        for (int i = 0; i < buyerCount; i++) {
            Buyer it = buyerAt(i);
            if (it != null && it.hasPressUpTo(running.time) && running.priceAt(it.pressTime) > freeOf(it)) {
                it.dropPress();
            }
        }
    }

    private Buyer firstDuePress() {
        Buyer first = null;
        for (int i = 0; i < buyerCount; i++) {
            Buyer it = buyerAt(i);
            if (it != null && it.hasPressUpTo(running.time)) {
                if (first == null || it.pressTime < first.pressTime) {
                    first = it;
                }
            }
        }
        return first;
    }

    private void sellByClock(Lot lot, Buyer buyer) {
        lot.tied = pressesTiedWith(buyer);
        lot.soldByClock = true;
        lot.sellTo(buyer.number, running.priceAt(buyer.pressTime));
        stopClock();
        chain.add(Chain.SOLD_BY_CLOCK, lot.number, lot.taker, lot.cents);
    }

    /** Those who could not pay have no press any more when this is asked. */
    private int pressesTiedWith(Buyer buyer) {
        int tied = 0;
        for (int i = 0; i < buyerCount; i++) {
            Buyer it = buyerAt(i);
            if (it != null && i != buyer.number && it.pressTime == buyer.pressTime) {
                tied |= 1 << i;
            }
        }
        return tied;
    }

    private void stopClock() {
        running.lot = null;
        dropPressesFrom(0);
    }

    private void dropPressesFrom(long time) {
        for (int i = 0; i < buyerCount; i++) {
            Buyer it = buyerAt(i);
            if (it != null && it.pressTime >= time) {
                it.dropPress();
            }
        }
    }

    private void sellRipeOffers() {
        for (int i = 0; i < lotCount; i++) {
            Lot it = lotAt(i);
            if (it != null && it.state == State.OFFERED && day - it.offeredOn >= OFFER_STANDS_FOR) {
                it.sellTo(it.taker, it.cents);
                chain.add(Chain.SOLD_BY_OFFERS, i, it.taker, it.cents);
            }
        }
    }

    private void findWinners() {
        search.clear();
        for (int i = 0; i < buyerCount; i++) {
            Buyer it = buyerAt(i);
            if (it != null) {
                search.setPurse(i, freeOf(it));
            }
        }
        for (int i = 0; i < bidCount; i++) {
            Bid it = bidAt(i);
            if (it != null && isGood(it)) {
                search.add(it);
            }
        }
        search.find();
    }

    private boolean isGood(Bid bid) {
        long reserves = 0;
        for (int i = 0; i < lotCount; i++) {
            Lot it = lotAt(i);
            if (it != null && bid.isFor(i)) {
                if (it.state != State.OPEN) {
                    return false;
                }
                reserves += it.reserve;
            }
        }
        return bid.lotSet != 0 && bid.cents >= reserves;
    }

    private void sellSet(Bid bid) {
        long cents = bid.cents;
        for (int i = 0; i < lotCount; i++) {
            Lot it = lotAt(i);
            if (it != null && bid.isFor(i)) {
                it.sellTo(bid.buyer, cents);
                chain.add(Chain.SOLD_IN_SET, i, bid.buyer, cents);
                cents = 0;
            }
        }
    }

    private enum State { OPEN, ON, OFFERED, SOLD, UNSOLD, BACK }

    private static final class Lot {
        final int number;
        final int kind;
        long grams;
        long reserve;
        State state;
        int taker;
        long cents;
        long offeredOn;
        boolean soldByClock;
        boolean parted;
        boolean reopened;
        int tied;

        Lot(int number, int kind, long grams, long reserve) {
            this.number = number;
            this.kind = kind;
            this.grams = grams;
            this.reserve = reserve;
            this.state = State.OPEN;
            this.taker = NONE;
        }

        boolean hasTaker() {
            return state == State.SOLD || state == State.OFFERED;
        }

        boolean canGoBack() {
            return state == State.OPEN || state == State.OFFERED || state == State.UNSOLD;
        }

        boolean isOpenOf(int wanted) {
            return state == State.OPEN && kind == wanted;
        }

        boolean goesBefore(Lot other) {
            return grams > other.grams || grams == other.grams && number < other.number;
        }

        boolean isTiedWith(int buyer) {
            return buyer >= 0 && buyer < MAX_BUYERS && (tied >>> buyer & 1) != 0;
        }

        long leastOffer() {
            return state == State.OFFERED ? cents + Math.max(1L, cents / 20) : reserve;
        }

        long offerOf(int buyer) {
            return state == State.OFFERED && taker == buyer ? cents : 0;
        }

        void sellTo(int buyer, long forCents) {
            state = State.SOLD;
            taker = buyer;
            cents = forCents;
        }
    }

    private static final class Buyer {
        final int number;
        final long credit;
        long lateBy;
        long pressTime;

        Buyer(int number, long credit) {
            this.number = number;
            this.credit = credit;
            this.pressTime = NONE;
        }

        boolean hasPressUpTo(long time) {
            return pressTime != NONE && pressTime <= time;
        }

        void dropPress() {
            pressTime = NONE;
        }
    }

    private static final class Bid {
        final int number;
        final int buyer;
        final long cents;
        long lotSet;

        Bid(int number, int buyer, long cents) {
            this.number = number;
            this.buyer = buyer;
            this.cents = cents;
        }

        boolean isFor(int lot) {
            return lot >= 0 && lot < MAX_LOTS && (lotSet >>> lot & 1) != 0;
        }

        void addLot(int lot) {
            if (lot >= 0 && lot < MAX_LOTS) {
                lotSet |= 1L << lot;
            }
        }
    }

    /** The clock; its lot is null when none is ON. */
    private static final class FallingClock {
        Lot lot;
        long from;
        long step;
        long end;
        long time;
        boolean stands;

        static long endOf(long drop, long step) {
            return step <= 0 ? 0 : (drop / step + 1) * 100;
        }

        void begin(Lot onClock, long price, long fall, long endsAt) {
            lot = onClock;
            from = price;
            step = fall;
            end = endsAt;
            time = 0;
            stands = false;
        }

        long priceAt(long at) {
            return from - step * (at / 100);
        }

        void goOn(long ms) {
            time = Math.min(time + ms, end);
        }

        void goBackTo(long earlier) {
            time = earlier / 100 * 100;
        }
    }

    private static final class Entry {
        final int sort;
        final int lot;
        final int buyer;
        final long cents;
        final int link;

        Entry(int sort, int lot, int buyer, long cents, int link) {
            this.sort = sort;
            this.lot = lot;
            this.buyer = buyer;
            this.cents = cents;
            this.link = link;
        }

        int linkBehind(int before) {
            return linkOf(before, sort, lot, buyer, cents);
        }

        static int linkOf(int before, int sort, int lot, int buyer, long cents) {
            return (int) ((31L * before + 7L * sort + 5L * lot + 3L * (buyer + 1) + cents) % 1000003L);
        }
    }

    /** The records, in the order in which they came. */
    private static final class Chain {
        static final int SOLD_BY_CLOCK = 1;
        static final int UNSOLD = 2;
        static final int SOLD_BY_OFFERS = 3;
        static final int SOLD_IN_SET = 4;
        static final int PARTED = 5;
        static final int REOPENED = 6;
        static final int TAKEN_BACK = 7;

        /** A lot tells at most four: unsold, open again, then unsold and back or sold and parted. */
        private static final int MAX_ENTRIES = 4 * MAX_LOTS;
        private static final int LINK_BEFORE_FIRST = 1;

        private final Entry[] entries = new Entry[MAX_ENTRIES];
        private int count;
        private int last = LINK_BEFORE_FIRST;

        void add(int sort, int lot, int buyer, long cents) {
            if (count < 0 || count >= entries.length) {
                return;
            }
            last = Entry.linkOf(last, sort, lot, buyer, cents);
            entries[count] = new Entry(sort, lot, buyer, cents, last);
            count++;
        }

        Entry at(int k) {
            return k < 0 || k >= count || k >= entries.length ? null : entries[k];
        }

        boolean isWhole() {
            int before = LINK_BEFORE_FIRST;
            for (int k = 0; k < count; k++) {
                Entry entry = at(k);
                if (entry == null || entry.link != entry.linkBehind(before)) {
                    return false;
                }
                before = entry.link;
            }
            return true;
        }
    }

    /**
     * Finds the winners among good bids. A lesser bid is tried with before without, so that of
     * sets with the same sum and number of bids the one that is due comes first.
     */
    private static final class SetSearch {
        private final Bid[] good = new Bid[MAX_BIDS];
        private final long[] restSums = new long[MAX_BIDS + 1];
        private final long[] purses = new long[MAX_BUYERS];
        private int count;
        private int bestChosen;
        long bestSum;

        void clear() {
            count = 0;
            bestChosen = 0;
            bestSum = 0;
        }

        void setPurse(int buyer, long cents) {
            if (buyer >= 0 && buyer < purses.length) {
                purses[buyer] = cents;
            }
        }

        void add(Bid bid) {
            if (count >= 0 && count < good.length) {
                good[count] = bid;
                count++;
            }
        }

        boolean hasChosen(int bid) {
            return bid >= 0 && bid < MAX_BIDS && (bestChosen >>> bid & 1) != 0;
        }

        int chosenCount() {
            return Integer.bitCount(bestChosen);
        }

        void find() {
            addUpRests();
            tryFrom(this, 0, 0, 0, 0);
        }

        private void addUpRests() {
            long sum = 0;
            for (int i = good.length; i >= 0; i--) {
                if (i < count && i < good.length && good[i] != null) {
                    sum += good[i].cents;
                }
                if (i < restSums.length) {
                    restSums[i] = sum;
                }
            }
        }

        private static void tryFrom(SetSearch search, int i, int chosen, long taken, long sum) {
            if (search.isBetter(sum, chosen)) {
                search.bestSum = sum;
                search.bestChosen = chosen;
            }
            Bid bid = search.goodAt(i);
            if (bid == null || !search.isBetter(sum + search.restFrom(i), chosen)) {
                return;
            }
            if ((bid.lotSet & taken) == 0 && search.spend(bid.buyer, bid.cents)) {
                tryFrom(search, i + 1, chosen | 1 << bid.number, taken | bid.lotSet, sum + bid.cents);
                search.spend(bid.buyer, -bid.cents);
            }
            tryFrom(search, i + 1, chosen, taken, sum);
        }

        private Bid goodAt(int i) {
            return i < 0 || i >= count || i >= good.length ? null : good[i];
        }

        /** What the good bids from here on would add if all of them won. */
        private long restFrom(int i) {
            return i < 0 || i >= restSums.length ? 0 : restSums[i];
        }

        private boolean isBetter(long sum, int chosen) {
            return sum > bestSum || sum == bestSum && Integer.bitCount(chosen) < chosenCount();
        }

        private boolean spend(int buyer, long cents) {
            if (buyer < 0 || buyer >= purses.length || purses[buyer] < cents) {
                return false;
            }
            purses[buyer] -= cents;
            return true;
        }
    }
}
