import java.util.Random;

/** Long runs of chosen calls on the class and on the Model: every answer and all that can be seen is the same. */
public final class ModelTest {
    private static final int RUNS = 1500;
    private static final int CALLS = 300;
    private static final long[] EDGES = {
        0, 1, -1, 2, 99, 100, 101, 9999, 10000, 10001, 1000000, 1000001, 1000000000L, 1000000001L,
        1000000000000L, 1000000000001L, 10000000, 20000000, 20000001, 262143, 262144,
        Integer.MAX_VALUE, Integer.MIN_VALUE, 4294967296L, 4294967297L, Long.MAX_VALUE, Long.MIN_VALUE};

    private static final Due due = new Due();
    private static Random random;
    private static ClockAuctions real;
    private static Model model;
    private static int lots;
    private static int buyers;
    private static String run;

    public static void main(String[] args) {
        for (int r = 0; r < RUNS && due.wrong() == 0; r++) {
            random = new Random(r);
            real = new ClockAuctions();
            model = new Model();
            lots = 0;
            buyers = 0;
            for (int c = 0; c < CALLS; c++) {
                run = "run " + r + ", call " + c + ": ";
                call(c < 10 ? random.nextInt(2) : random.nextInt(26));
                if (c % 15 == 14) {
                    compareAll();
                }
            }
        }
        due.end();
    }

    private static int lot() {
        return random.nextInt(30) == 0 ? (int) edge() : random.nextInt(lots + 2) - (random.nextInt(20) == 0 ? 1 : 0);
    }

    private static int buyer() {
        return random.nextInt(30) == 0 ? (int) edge() : random.nextInt(buyers + 1);
    }

    private static long edge() {
        return EDGES[random.nextInt(EDGES.length)];
    }

    /** Mostly small, now and then an edge. */
    private static long some(int bound) {
        return random.nextInt(25) == 0 ? edge() : random.nextInt(bound);
    }

    private static void same(String call, long got, long want) {
        due.is(run + call, got, want);
    }

    private static void same(String call, boolean got, boolean want) {
        due.is(run + call, got, want);
    }

    private static void call(int what) {
        if (what < 2) {
            callToAdd(what);
        } else if (what < 16) {
            callOnTheClock(what);
        } else {
            callOnOffersAndSets(what);
        }
    }

    private static void callToAdd(int what) {
        if (what == 0) {
            int kind = (int) some(2);
            long grams = some(12);
            long reserve = some(60);
            int got = real.lot(kind, grams, reserve);
            same("lot(" + kind + ", " + grams + ", " + reserve + ")", got, model.lot(kind, grams, reserve));
            lots += got == -1 ? 0 : 1;
        } else {
            long credit = some(400);
            int got = real.buyer(credit);
            same("buyer(" + credit + ")", got, model.buyer(credit));
            buyers += got == -1 ? 0 : 1;
        }
    }

    private static void callOnTheClock(int what) {
        int lot = lot();
        int buyer = buyer();
        switch (what) {
            case 2: case 3: case 4: {
                long from = some(200);
                long step = some(20);
                same("start(" + lot + ", " + from + ", " + step + ")", real.start(lot, from, step), model.start(lot, from, step));
                break;
            }
            case 5: case 6: case 7: case 8: {
                long ms = random.nextBoolean() ? some(1500) : random.nextInt(4) * 100L;
                same("press(" + buyer + ", " + ms + ")", real.press(buyer, ms), model.press(buyer, ms));
                break;
            }
            case 9: {
                long ms = some(random.nextBoolean() ? 300 : 5002);
                same("delay(" + buyer + ", " + ms + ")", real.delay(buyer, ms), model.delay(buyer, ms));
                break;
            }
            case 10: case 11: case 12: {
                long ms = random.nextInt(3) == 0 ? some(11000) : random.nextInt(400);
                same("tick(" + ms + ")", real.tick(ms), model.tick(ms));
                break;
            }
            case 13: {
                boolean on = random.nextBoolean();
                long ms = on ? some(400) : some(3) / 2;
                same("outage(" + ms + ", " + on + ")", real.outage(ms, on), model.outage(ms, on));
                break;
            }
            case 14: {
                long grams = some(12);
                int got = real.part(lot, grams);
                same("part(" + lot + ", " + grams + ")", got, model.part(lot, grams));
                lots += got == -1 ? 0 : 1;
                break;
            }
            default:
                same("again(" + lot + ")", real.again(lot), model.again(lot));
                break;
        }
    }

    private static void callOnOffersAndSets(int what) {
        int lot = lot();
        int buyer = buyer();
        switch (what) {
            case 16: case 17: case 18: {
                long cents = some(300);
                same("rise(" + lot + ", " + buyer + ", " + cents + ")", real.rise(lot, buyer, cents), model.rise(lot, buyer, cents));
                break;
            }
            case 19: {
                long cents = some(100);
                same("bid(" + buyer + ", " + cents + ")", real.bid(buyer, cents), model.bid(buyer, cents));
                break;
            }
            case 20: case 21: case 22: {
                int bid = (int) some(8);
                same("on(" + bid + ", " + lot + ")", real.on(bid, lot), model.on(bid, lot));
                break;
            }
            case 23: {
                long nodes = random.nextInt(3) == 0 ? some(64) : 512;
                same("sets(" + nodes + ")", real.sets(nodes), model.sets(nodes));
                break;
            }
            case 24:
                if (random.nextInt(4) == 0) {
                    same("back(" + lot + ")", real.back(lot), model.back(lot));
                }
                break;
            default:
                same("tie(" + lot + ", 0)", real.tie(lot, 0), model.tie(lot, 0));
                break;
        }
    }

    private static void compareAll() {
        same("clock()", real.clock(), model.clock());
        same("sum()", real.sum(), model.sum());
        same("proved()", real.proved(), model.proved());
        same("chained()", real.chained(), true);
        for (int i = -1; i <= 60; i++) {
            same("winner(" + i + ")", real.winner(i), model.winner(i));
            same("price(" + i + ")", real.price(i), model.price(i));
            same("left(" + i + ")", real.left(i), model.left(i));
            same("fee(" + i + ")", real.fee(i), model.fee(i));
            same("order(0, " + i + ")", real.order(0, i), model.order(0, i));
            same("order(1, " + i + ")", real.order(1, i), model.order(1, i));
            for (int k = -1; k < 4; k++) {
                same("tie(" + i + ", " + k + ")", real.tie(i, k), model.tie(i, k));
            }
        }
        for (int b = -1; b <= 30; b++) {
            same("held(" + b + ")", real.held(b), model.held(b));
            same("wins(" + b + ")", real.wins(b), model.wins(b));
        }
        for (int k = -1; k <= 240; k++) {
            for (int what = -1; what <= 5; what++) {
                same("record(" + k + ", " + what + ")", real.record(k, what), model.record(k, what));
            }
        }
    }
}
