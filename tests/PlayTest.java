/** Promise 28 (play): against the same turns called one by one. */
public final class PlayTest {
    private static final Due due = new Due();

    public static void main(String[] args) {
        promise28Refused();
        promise28NothingToPlayWith();
        promise28EachTurn(0, 88172645463325252L);
        for (long seed = -40; seed < 40; seed++) {
            promise28EachTurn(seed == 0 ? 99 : seed * 1234567891011L, seed == 0 ? 99 : seed * 1234567891011L);
        }
        promise28EachTurn(Long.MIN_VALUE, Long.MIN_VALUE);
        promise28EachTurn(Long.MAX_VALUE, Long.MAX_VALUE);
        due.end();
    }

    private static ClockAuctions hall() {
        ClockAuctions a = new ClockAuctions();
        for (int i = 0; i < 60; i++) {
            a.lot(i % 10, 1 + i, 10L * i);
        }
        for (int i = 0; i < 30; i++) {
            a.buyer(60000 + 5000L * i);
        }
        return a;
    }

    private static void promise28Refused() {
        ClockAuctions a = hall();
        due.is("turns 0", a.play(1, 0), -1);
        due.is("turns -1", a.play(1, -1), -1);
        due.is("turns 201", a.play(1, 201), -1);
        due.is("nothing was played", a.clock(), -1);
        due.is("turns 1", a.play(1, 1), 0);
        due.is("turns 200", hall().play(1, 200) >= 0, true);
    }

    private static void promise28NothingToPlayWith() {
        due.is("no lots, no buyers", new ClockAuctions().play(7, 200), 0);
        ClockAuctions a = new ClockAuctions();
        a.lot(0, 1, 0);
        a.buyer(5);
        a.rise(0, 0, 5);
        a.tick(10000);
        due.is("what was SOLD before counts too", a.play(7, 1), 1);
    }

    private static void promise28EachTurn(long seed, long first) {
        ClockAuctions played = hall();
        ClockAuctions called = hall();
        for (int turns : new int[] {1, 2, 17, 200, 200}) {
            long x = first;
            for (int t = 0; t < turns; t++) {
                x = x ^ x << 13;
                x = x ^ x >>> 7;
                x = x ^ x << 17;
                callTurn(called, x >>> 1);
            }
            due.is("play(" + seed + ", " + turns + ")", played.play(seed, turns), sold(called));
            compare("seed " + seed, played, called);
        }
    }

    private static void callTurn(ClockAuctions a, long n) {
        int i = (int) (n / 6 % 64);
        long v = n / 384 % 100000;
        int what = (int) (n % 6);
        if (what == 0) {
            a.press(i % 32, v % 3000);
        } else if (what == 1) {
            a.tick(1 + v % 500);
        } else if (what == 2) {
            a.start(i, v, 1 + v % 97 * 5);
        } else if (what == 3) {
            a.rise(i, (int) (v % 32), v);
        } else if (what == 4) {
            if (!a.outage(0, true)) {
                a.outage(0, false);
            }
        } else {
            a.again(i);
        }
    }

    private static int sold(ClockAuctions a) {
        int count = 0;
        for (int i = 0; i < 60; i++) {
            count += a.fee(i) == -1 ? 0 : 1;
        }
        return count;
    }

    private static void compare(String run, ClockAuctions played, ClockAuctions called) {
        due.is(run + ": clock", played.clock(), called.clock());
        for (int i = 0; i < 60; i++) {
            due.is(run + ": winner(" + i + ")", played.winner(i), called.winner(i));
            due.is(run + ": price(" + i + ")", played.price(i), called.price(i));
        }
        for (int k = 0; k < 240; k++) {
            due.is(run + ": record(" + k + ", 4)", played.record(k, 4), called.record(k, 4));
        }
    }
}
