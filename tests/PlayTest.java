/** Promise 28 (play): against the same turns called one by one, and its edges. */
public final class PlayTest {
    private static final int LOTS = 40;
    private static final int BUYERS = 30;
    private static final long SEED_FOR_ZERO = 88172645463325252L;
    private static final Due due = new Due();

    public static void main(String[] args) {
        promise28Turns();
        promise28RefusedPlaysNothing();
        promise28NothingToPlayWith();
        promise28CountsWhatWasSoldBefore();
        promise28SeedOf0();
        promise28OneTurn();
        promise28EachTurn();
        promise28GoesOnFromWhatIs();
        promise28OpenAgain();
        due.end();
    }

    private static Counted hall() {
        Counted a = new Counted();
        for (int i = 0; i < LOTS; i++) {
            a.lot(i % 10, 1 + i, 10L * i);
        }
        for (int i = 0; i < BUYERS; i++) {
            a.buyer(60000 + 5000L * i);
        }
        return a;
    }

    private static void promise28Turns() {
        for (int turns : new int[] {0, -1, 201, 202, -200, Integer.MIN_VALUE, Integer.MAX_VALUE}) {
            due.is("play(1, " + turns + ")", hall().play(1, turns), -1);
        }
        due.is("1 turn", hall().play(1, 1), 0);
        due.is("200 turns", new Counted().play(1, 200), 0);
    }

    private static void promise28RefusedPlaysNothing() {
        for (int turns : new int[] {0, -1, 201, Integer.MIN_VALUE, Integer.MAX_VALUE}) {
            for (long seed = 1; seed < 40; seed++) {
                Counted a = hall();
                a.play(seed, turns);
                due.is("clock()", a.clock(), -1);
                due.is("record(0, 0)", a.record(0, 0), -1);
                due.is("the next turn is the first", lookAt(played(a, seed, 1)), lookAt(played(hall(), seed, 1)));
            }
        }
    }

    private static long lookAt(Counted a) {
        long look = a.clock();
        for (int lot = 0; lot < LOTS; lot++) {
            look = 31 * look + a.price(lot);
        }
        return look;
    }

    private static void promise28NothingToPlayWith() {
        Counted a = new Counted();
        for (long seed : new long[] {0, 1, -1, Long.MIN_VALUE, Long.MAX_VALUE}) {
            due.is("no lots, no buyers, seed " + seed, a.play(seed, 200), 0);
        }
        due.is("no record", a.record(0, 0), -1);
    }

    private static void promise28CountsWhatWasSoldBefore() {
        Counted a = new Counted();
        a.lot(0, 1, 0);
        a.lot(0, 1, 0);
        a.buyer(5);
        a.rise(0, 0, 5);
        a.tick(10000);
        a.bid(0, 0);
        due.is("one is SOLD", a.play(7, 1), 1);
        due.is("refused though one is SOLD", a.play(7, 0), -1);
        due.is("refused though one is SOLD", a.play(7, 201), -1);
    }

    private static void promise28SeedOf0() {
        compare("0 is " + SEED_FOR_ZERO, played(hall(), 0, 200), played(hall(), SEED_FOR_ZERO, 200));
        compare("seed 0, called one by one", played(hall(), 0, 200), called(hall(), SEED_FOR_ZERO, 200));
        due.holds("seed 1 is another", lookAt(played(hall(), 1, 200)) != lookAt(played(hall(), 0, 200)));
    }

    private static void promise28OneTurn() {
        for (long seed = 1; seed < 500; seed++) {
            compare("one turn of " + seed, played(hall(), seed, 1), called(hall(), seed, 1));
        }
    }

    private static void promise28EachTurn() {
        for (long s = 1; s < 150; s++) {
            long seed = s * 1234567891011121L * (s % 2 == 0 ? 1 : -1);
            int turns = s % 3 == 0 ? 200 : (int) (1 + s * 31 % 200);
            compare("seed " + seed, played(hall(), seed, turns), called(hall(), seed, turns));
        }
        for (long seed : new long[] {1, -1, Long.MIN_VALUE, Long.MAX_VALUE}) {
            compare("seed " + seed, played(hall(), seed, 200), called(hall(), seed, 200));
        }
    }

    private static void promise28GoesOnFromWhatIs() {
        for (long seed = 1; seed < 60; seed++) {
            Counted a = hall();
            Counted b = hall();
            for (int part = 0; part < 3; part++) {
                played(a, seed + 100 * part, 60);
                called(b, seed + 100 * part, 60);
            }
            compare("three times from " + seed, a, b);
        }
    }

    private static Counted unsoldLots() {
        Counted a = new Counted();
        for (int i = 0; i < 30; i++) {
            a.lot(i % 10, 1 + i, 10L * i);
            a.start(i, 10L * i, 1);
            a.tick(100);
        }
        a.buyer(60000);
        return a;
    }

    private static void promise28OpenAgain() {
        int opened = 0;
        for (long seed = 1; seed < 60; seed++) {
            Counted played = played(unsoldLots(), seed, 100);
            for (int k = 30; played.record(k, 0) != -1; k++) {
                opened += played.record(k, 0) == 6 ? 1 : 0;
            }
            compare("UNSOLD lots, seed " + seed, played, called(unsoldLots(), seed, 100));
        }
        due.holds("lots were opened again", opened > 100);
    }

    private static Counted played(Counted a, long seed, int turns) {
        int want = -1;
        int got = a.play(seed, turns);
        if (got >= 0) {
            want = sold(a);
        }
        due.is("play(" + seed + ", " + turns + ")", got, want);
        return a;
    }

    private static int sold(Counted a) {
        int count = 0;
        for (int i = 0; i < LOTS; i++) {
            count += a.fee(i) == -1 ? 0 : 1;
        }
        return count;
    }

    private static Counted called(Counted a, long seed, int turns) {
        long x = seed;
        for (int t = 0; t < turns; t++) {
            x = x ^ x << 13;
            x = x ^ x >>> 7;
            x = x ^ x << 17;
            callTurn(a, x >>> 1);
        }
        return a;
    }

    private static void callTurn(Counted a, long n) {
        int i = (int) (n / 6 % 64);
        long v = n / 384 % 100000;
        int what = (int) (n % 6);
        if (what == 0) {
            a.press(i % 32, v % 3000);
        } else if (what == 1) {
            a.tick(1 + v % 500);
        } else if (what == 2) {
            a.start(i, v, 1 + v % 97 * 5);
        } else if (what == 3) {
            a.rise(i, (int) (v % 32), v);
        } else if (what == 4) {
            if (!a.outage(0, true)) {
                a.outage(0, false);
            }
        } else {
            a.again(i);
        }
    }

    private static void compare(String run, Counted played, Counted called) {
        due.is(run + ": clock", played.clock(), called.clock());
        for (int i = 0; i < LOTS; i++) {
            due.is(run + ": winner(" + i + ")", played.winner(i), called.winner(i));
            due.is(run + ": price(" + i + ")", played.price(i), called.price(i));
        }
        for (int k = 0; k < LOTS; k++) {
            due.is(run + ": record(" + k + ", 4)", played.record(k, 4), called.record(k, 4));
        }
        due.is(run + ": a press", played.press(0, 100), called.press(0, 100));
        due.is(run + ": the next tick", played.tick(10), called.tick(10));
        due.is(run + ": the clock then", played.clock(), called.clock());
    }
}
