/** One call with its arguments; a boolean answer counts 1 or 0. */
final class Call {
    interface Body {
        long on(Auctions a);
    }

    interface Asked {
        boolean on(Auctions a);
    }

    final String name;
    private final Body body;

    Call(String name, Body body) {
        this.name = name;
        this.body = body;
    }

    static Call asked(String name, Asked body) {
        return new Call(name, a -> body.on(a) ? 1 : 0);
    }

    long on(Auctions a) {
        return body.on(a);
    }

    static Call lot(int kind, long grams, long reserve) {
        return new Call("lot(" + kind + ", " + grams + ", " + reserve + ")", a -> a.lot(kind, grams, reserve));
    }

    static Call buyer(long credit) {
        return new Call("buyer(" + credit + ")", a -> a.buyer(credit));
    }

    static Call start(int lot, long from, long step) {
        return new Call("start(" + lot + ", " + from + ", " + step + ")", a -> a.start(lot, from, step));
    }

    static Call press(int buyer, long ms) {
        return asked("press(" + buyer + ", " + ms + ")", a -> a.press(buyer, ms));
    }

    static Call delay(int buyer, long ms) {
        return asked("delay(" + buyer + ", " + ms + ")", a -> a.delay(buyer, ms));
    }

    static Call tick(long ms) {
        return new Call("tick(" + ms + ")", a -> a.tick(ms));
    }

    static Call part(int lot, long grams) {
        return new Call("part(" + lot + ", " + grams + ")", a -> a.part(lot, grams));
    }

    static Call outage(long ms, boolean on) {
        return asked("outage(" + ms + ", " + on + ")", a -> a.outage(ms, on));
    }

    static Call rise(int lot, int buyer, long cents) {
        return new Call("rise(" + lot + ", " + buyer + ", " + cents + ")", a -> a.rise(lot, buyer, cents));
    }

    static Call bid(int buyer, long cents) {
        return new Call("bid(" + buyer + ", " + cents + ")", a -> a.bid(buyer, cents));
    }

    static Call on(int bid, int lot) {
        return asked("on(" + bid + ", " + lot + ")", a -> a.on(bid, lot));
    }

    static Call sets(long nodes) {
        return new Call("sets(" + nodes + ")", a -> a.sets(nodes));
    }

    static Call again(int lot) {
        return new Call("again(" + lot + ")", a -> a.again(lot));
    }

    static Call back(int lot) {
        return new Call("back(" + lot + ")", a -> a.back(lot));
    }

    static Call play(long seed, int turns) {
        return new Call("play(" + seed + ", " + turns + ")", a -> a.play(seed, turns));
    }
}
