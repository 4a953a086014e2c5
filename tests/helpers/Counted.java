/** The class itself. It counts its calls: the document says nothing of those behind the 512th. */
final class Counted implements Auctions {
    static final int MOST_CALLS = 512;

    private final ClockAuctions real = new ClockAuctions();
    private int calls;

    int callsLeft() {
        return MOST_CALLS - calls;
    }

    private ClockAuctions counted() {
        calls++;
        if (calls > MOST_CALLS) {
            throw new IllegalStateException("a test makes more calls than the document speaks of");
        }
        return real;
    }

    @Override
    public int lot(int kind, long grams, long reserve) {
        return counted().lot(kind, grams, reserve);
    }

    @Override
    public int buyer(long credit) {
        return counted().buyer(credit);
    }

    @Override
    public int start(int lot, long from, long step) {
        return counted().start(lot, from, step);
    }

    @Override
    public boolean press(int buyer, long ms) {
        return counted().press(buyer, ms);
    }

    @Override
    public boolean delay(int buyer, long ms) {
        return counted().delay(buyer, ms);
    }

    @Override
    public int tick(long ms) {
        return counted().tick(ms);
    }

    @Override
    public int winner(int lot) {
        return counted().winner(lot);
    }

    @Override
    public long price(int lot) {
        return counted().price(lot);
    }

    @Override
    public int part(int lot, long grams) {
        return counted().part(lot, grams);
    }

    @Override
    public long left(int lot) {
        return counted().left(lot);
    }

    @Override
    public boolean outage(long ms, boolean on) {
        return counted().outage(ms, on);
    }

    @Override
    public long clock() {
        return counted().clock();
    }

    @Override
    public int rise(int lot, int buyer, long cents) {
        return counted().rise(lot, buyer, cents);
    }

    @Override
    public int bid(int buyer, long cents) {
        return counted().bid(buyer, cents);
    }

    @Override
    public boolean on(int bid, int lot) {
        return counted().on(bid, lot);
    }

    @Override
    public int sets(long nodes) {
        return counted().sets(nodes);
    }

    @Override
    public boolean wins(int bid) {
        return counted().wins(bid);
    }

    @Override
    public long sum() {
        return counted().sum();
    }

    @Override
    public boolean proved() {
        return counted().proved();
    }

    @Override
    public long held(int buyer) {
        return counted().held(buyer);
    }

    @Override
    public int again(int lot) {
        return counted().again(lot);
    }

    @Override
    public long fee(int lot) {
        return counted().fee(lot);
    }

    @Override
    public int record(int k, int what) {
        return counted().record(k, what);
    }

    @Override
    public boolean chained() {
        return counted().chained();
    }

    @Override
    public int order(int kind2, int k) {
        return counted().order(kind2, k);
    }

    @Override
    public int back(int lot) {
        return counted().back(lot);
    }

    @Override
    public int play(long seed, int turns) {
        return counted().play(seed, turns);
    }

    @Override
    public int tie(int lot, int k) {
        return counted().tie(lot, k);
    }
}
