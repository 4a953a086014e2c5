import java.util.ArrayList;
import java.util.Comparator;
import java.util.List;
import java.util.Map;
import java.util.TreeMap;

/**
 * The document once more, in another and plainer form than the class: what is held is booked as it
 * changes, presses are a list that is sorted and gone through, sets are all looked at.
 */
final class Model implements Auctions {
    static final class Lot {
        int kind;
        long grams;
        long reserve;
        String state = "OPEN";
        int who = -1;
        long cents = -1;
        long since;
        boolean byClock;
        boolean parted;
        boolean reopened;
        List<Integer> tie = new ArrayList<>();
    }

    private final List<Lot> lots = new ArrayList<>();
    private final List<Long> free = new ArrayList<>();
    private final List<Long> credit = new ArrayList<>();
    private final List<Long> late = new ArrayList<>();
    private final List<long[]> records = new ArrayList<>();
    private List<Integer> bidBuyer = new ArrayList<>();
    private List<Long> bidCents = new ArrayList<>();
    private List<List<Integer>> bidLots = new ArrayList<>();
    private final Map<Integer, Long> presses = new TreeMap<>();
    private List<Integer> won = new ArrayList<>();
    private long wonSum;
    private boolean stood;
    private long day;
    private int on = -1;
    private long from;
    private long step;
    private long end;
    private long time;
    private boolean stands;

    private boolean isLot(int lot) {
        return lot >= 0 && lot < lots.size();
    }

    private boolean isBuyer(int buyer) {
        return buyer >= 0 && buyer < free.size();
    }

    private boolean is(int lot, String... states) {
        for (String state : states) {
            if (state.equals(lots.get(lot).state)) {
                return true;
            }
        }
        return false;
    }

    private void book(int buyer, long cents) {
        free.set(buyer, free.get(buyer) - cents);
    }

    private void tell(long sort, long lot, long buyer, long price) {
        long before = records.isEmpty() ? 1 : records.get(records.size() - 1)[4];
        long link = (31 * before + 7 * sort + 5 * lot + 3 * (buyer + 1) + price) % 1000003;
        records.add(new long[] {sort, lot, buyer, price, link});
    }

    private static long up(long a, long b, long c) {
        return a * b % c == 0 ? a * b / c : a * b / c + 1;
    }

    @Override
    public int lot(int kind, long grams, long reserve) {
        if (lots.size() == 60 || kind < 0 || kind > 9 || grams < 1 || grams > 1000000000L) {
            return -1;
        }
        if (reserve < 0 || reserve > 1000000000L) {
            return -1;
        }
        Lot it = new Lot();
        it.kind = kind;
        it.grams = grams;
        it.reserve = reserve;
        lots.add(it);
        return lots.size() - 1;
    }

    @Override
    public int buyer(long cents) {
        if (free.size() == 30 || cents < 0 || cents > 1000000000000L) {
            return -1;
        }
        credit.add(cents);
        free.add(cents);
        late.add(0L);
        return free.size() - 1;
    }

    @Override
    public int start(int lot, long price, long fall) {
        if (!isLot(lot) || !is(lot, "OPEN") || on != -1) {
            return -1;
        }
        long reserve = lots.get(lot).reserve;
        if (price < reserve || price > 1000000000L || fall < 1 || fall > 1000000) {
            return -1;
        }
        long t = 0;
        while (price - fall * (t / 100) >= reserve) {
            t += 100;
            if (t > 10000000) {
                return -1;
            }
        }
        lots.get(lot).state = "ON";
        on = lot;
        from = price;
        step = fall;
        end = t;
        time = 0;
        stands = false;
        presses.clear();
        return (int) t;
    }

    @Override
    public boolean press(int buyer, long ms) {
        if (!isBuyer(buyer) || on == -1 || stands || ms < 0 || ms > 20000000) {
            return false;
        }
        long t = ms - late.get(buyer) < 0 ? 0 : ms - late.get(buyer);
        if (t >= end || presses.containsKey(buyer) && presses.get(buyer) <= t) {
            return false;
        }
        presses.put(buyer, t);
        return true;
    }

    @Override
    public boolean delay(int buyer, long ms) {
        if (!isBuyer(buyer) || ms < 0 || ms > 5000) {
            return false;
        }
        late.set(buyer, ms);
        return true;
    }

    @Override
    public int tick(long ms) {
        if (ms < 1 || ms > 1000000) {
            return -1;
        }
        day += ms;
        int answer = on == -1 ? -1 : stands ? 0 : runTo(time + ms > end ? end : time + ms);
        for (int i = 0; i < lots.size(); i++) {
            if (is(i, "OFFERED") && lots.get(i).since + 10000 <= day) {
                lots.get(i).state = "SOLD";
                tell(3, i, lots.get(i).who, lots.get(i).cents);
            }
        }
        return answer;
    }

    private int runTo(long t) {
        time = t;
        List<int[]> due = new ArrayList<>();
        for (Map.Entry<Integer, Long> press : presses.entrySet()) {
            if (press.getValue() <= t) {
                due.add(new int[] {(int) (long) press.getValue(), press.getKey()});
            }
        }
        due.sort(Comparator.comparingInt((int[] p) -> p[0]).thenComparingInt(p -> p[1]));
        for (int[] p : due) {
            long price = from - step * (p[0] / 100);
            if (price > free.get(p[1])) {
                presses.remove(p[1]);
                continue;
            }
            Lot it = lots.get(on);
            for (int[] q : due) {
                if (q[0] == p[0] && q[1] != p[1] && free.get(q[1]) >= price) {
                    it.tie.add(q[1]);
                }
            }
            it.state = "SOLD";
            it.byClock = true;
            it.who = p[1];
            it.cents = price;
            book(p[1], price);
            tell(1, on, p[1], price);
            on = -1;
            return 1;
        }
        if (time < end) {
            return 0;
        }
        lots.get(on).state = "UNSOLD";
        tell(2, on, -1, 0);
        on = -1;
        return 2;
    }

    @Override
    public int winner(int lot) {
        return isLot(lot) ? lots.get(lot).who : -1;
    }

    @Override
    public long price(int lot) {
        return isLot(lot) ? lots.get(lot).cents : -1;
    }

    @Override
    public int part(int lot, long grams) {
        if (!isLot(lot) || !lots.get(lot).byClock || lots.get(lot).parted) {
            return -1;
        }
        Lot it = lots.get(lot);
        if (grams <= 0 || grams >= it.grams || lots.size() == 60) {
            return -1;
        }
        long others = it.grams - grams;
        long price = up(it.cents, grams, it.grams);
        int made = lot(it.kind, others, up(it.reserve, others, it.grams));
        book(it.who, price - it.cents);
        it.cents = price;
        it.grams = grams;
        it.parted = true;
        tell(5, lot, it.who, price);
        return made;
    }

    @Override
    public long left(int lot) {
        return isLot(lot) ? lots.get(lot).grams : -1;
    }

    @Override
    public boolean outage(long ms, boolean goesOut) {
        if (on == -1 || stands == goesOut || ms < 0 || ms > (goesOut ? time : 0)) {
            return false;
        }
        stands = goesOut;
        if (goesOut) {
            time -= ms;
            time -= time % 100;
            presses.values().removeIf(t -> t >= time);
        }
        return true;
    }

    @Override
    public long clock() {
        return on == -1 ? -1 : from - step * (time / 100);
    }

    @Override
    public int rise(int lot, int buyer, long cents) {
        if (!isLot(lot) || !isBuyer(buyer)) {
            return 1;
        }
        if (!is(lot, "OPEN", "OFFERED")) {
            return 2;
        }
        Lot it = lots.get(lot);
        long last = it.state.equals("OFFERED") ? it.cents : 0;
        if (cents < it.reserve || it.who != -1 && cents < last + (last < 20 ? 1 : last / 20)) {
            return 3;
        }
        if (cents > free.get(buyer) + (it.who == buyer ? last : 0)) {
            return 4;
        }
        if (it.who != -1) {
            book(it.who, -last);
        }
        book(buyer, cents);
        it.state = "OFFERED";
        it.who = buyer;
        it.cents = cents;
        it.since = day;
        return 0;
    }

    @Override
    public int bid(int buyer, long cents) {
        if (!isBuyer(buyer) || bidBuyer.size() == 18 || cents < 0 || cents > 1000000000000L) {
            return -1;
        }
        bidBuyer.add(buyer);
        bidCents.add(cents);
        bidLots.add(new ArrayList<>());
        return bidBuyer.size() - 1;
    }

    @Override
    public boolean on(int bid, int lot) {
        if (bid < 0 || bid >= bidBuyer.size() || !isLot(lot) || bidLots.get(bid).contains(lot) || !is(lot, "OPEN")) {
            return false;
        }
        bidLots.get(bid).add(lot);
        bidLots.get(bid).sort(null);
        return true;
    }

    @Override
    public int sets(long nodes) {
        int n = bidBuyer.size();
        stood = n > 0 && nodes >= Math.pow(2, n);
        if (!stood) {
            return -1;
        }
        won = new ArrayList<>();
        wonSum = 0;
        for (int mask = 1; mask < 1 << n; mask++) {
            List<Integer> set = new ArrayList<>();
            for (int b = 0; b < n; b++) {
                if ((mask >>> b & 1) != 0) {
                    set.add(b);
                }
            }
            long sum = sumOf(set);
            if (sum > wonSum || sum == wonSum && isBefore(set, won)) {
                won = set;
                wonSum = sum;
            }
        }
        for (int b : won) {
            long cents = bidCents.get(b);
            book(bidBuyer.get(b), cents);
            for (int lot : bidLots.get(b)) {
                lots.get(lot).state = "SOLD";
                lots.get(lot).who = bidBuyer.get(b);
                lots.get(lot).cents = cents;
                tell(4, lot, bidBuyer.get(b), cents);
                cents = 0;
            }
        }
        bidBuyer = new ArrayList<>();
        bidCents = new ArrayList<>();
        bidLots = new ArrayList<>();
        return won.size();
    }

    /** -1 for bids that cannot win together. */
    private long sumOf(List<Integer> set) {
        List<Integer> taken = new ArrayList<>();
        List<Long> purse = new ArrayList<>(free);
        long sum = 0;
        for (int b : set) {
            long reserves = 0;
            for (int lot : bidLots.get(b)) {
                if (!is(lot, "OPEN") || taken.contains(lot)) {
                    return -1;
                }
                taken.add(lot);
                reserves += lots.get(lot).reserve;
            }
            int buyer = bidBuyer.get(b);
            purse.set(buyer, purse.get(buyer) - bidCents.get(b));
            if (bidLots.get(b).isEmpty() || bidCents.get(b) < reserves || purse.get(buyer) < 0) {
                return -1;
            }
            sum += bidCents.get(b);
        }
        return sum;
    }

    private static boolean isBefore(List<Integer> set, List<Integer> other) {
        if (set.size() != other.size()) {
            return set.size() < other.size();
        }
        for (int i = 0; i < set.size(); i++) {
            if (!set.get(i).equals(other.get(i))) {
                return set.get(i) < other.get(i);
            }
        }
        return false;
    }

    @Override
    public boolean wins(int bid) {
        return won.contains(bid);
    }

    @Override
    public long sum() {
        return wonSum;
    }

    @Override
    public boolean proved() {
        return stood;
    }

    @Override
    public long held(int buyer) {
        return isBuyer(buyer) ? credit.get(buyer) - free.get(buyer) : -1;
    }

    @Override
    public int again(int lot) {
        if (!isLot(lot) || !is(lot, "UNSOLD") || lots.get(lot).reopened) {
            return -1;
        }
        Lot it = lots.get(lot);
        it.state = "OPEN";
        it.reopened = true;
        it.reserve = it.reserve - it.reserve / 10;
        tell(6, lot, -1, it.reserve);
        return 1;
    }

    @Override
    public long fee(int lot) {
        return isLot(lot) && is(lot, "SOLD") ? up(lots.get(lot).cents, 1, 50) + 30 : -1;
    }

    @Override
    public int record(int k, int what) {
        if (k < 0 || k >= records.size() || what < 0 || what > 4) {
            return -1;
        }
        return (int) (records.get(k)[what] % 1000000000L);
    }

    @Override
    public int order(int kind, int k) {
        List<Integer> open = new ArrayList<>();
        for (int i = 0; i < lots.size(); i++) {
            if (is(i, "OPEN") && lots.get(i).kind == kind) {
                open.add(i);
            }
        }
        open.sort(Comparator.comparing((Integer i) -> -lots.get(i).grams).thenComparing(i -> i));
        return k < 0 || k >= open.size() ? -1 : open.get(k);
    }

    @Override
    public int back(int lot) {
        if (!isLot(lot) || !is(lot, "OPEN", "OFFERED", "UNSOLD")) {
            return -1;
        }
        Lot it = lots.get(lot);
        if (it.who != -1) {
            book(it.who, -it.cents);
        }
        it.state = "BACK";
        it.who = -1;
        it.cents = -1;
        tell(7, lot, -1, 0);
        return 1;
    }

    @Override
    public int tie(int lot, int k) {
        return !isLot(lot) || k < 0 || k >= lots.get(lot).tie.size() ? -1 : lots.get(lot).tie.get(k);
    }

    @Override
    public boolean chained() {
        return true;
    }

    @Override
    public int play(long seed, int turns) {
        if (turns < 1 || turns > 200) {
            return -1;
        }
        long x = seed == 0 ? 88172645463325252L : seed;
        for (int turn = 0; turn < turns; turn++) {
            x = x ^ (x << 13);
            x = x ^ (x >>> 7);
            x = x ^ (x << 17);
            long n = x >>> 1;
            playTurn((int) (n % 6), (int) (n / 6 % 64), n / 384 % 100000);
        }
        int sold = 0;
        for (int lot = 0; lot < lots.size(); lot++) {
            sold += is(lot, "SOLD") ? 1 : 0;
        }
        return sold;
    }

    private void playTurn(int what, int i, long v) {
        if (what == 0) {
            press(i % 32, v % 3000);
        } else if (what == 1) {
            tick(1 + v % 500);
        } else if (what == 2) {
            start(i, v, 1 + v % 97 * 5);
        } else if (what == 3) {
            rise(i, (int) (v % 32), v);
        } else if (what == 5) {
            again(i);
        } else if (!outage(0, true)) {
            outage(0, false);
        }
    }

    int lots() {
        return lots.size();
    }

    int buyers() {
        return free.size();
    }

    int records() {
        return records.size();
    }
}
