import java.util.Random;

/** Long runs of calls on the class and on the Model: every answer and all that can be seen is the same. */
public final class ModelTest {
    private static final int RUNS = 1500;
    private static final long[] EDGES = {
        0, 1, -1, 2, 99, 100, 101, 9999, 10000, 10001, 1000000, 1000001, 1000000000L, 1000000001L,
        1000000000000L, 1000000000001L, 10000000, 20000000, 20000001, 262143, 262144,
        Integer.MAX_VALUE, Integer.MIN_VALUE, 4294967296L, 4294967297L, Long.MAX_VALUE, Long.MIN_VALUE};

    private static final Due due = new Due();
    private static Random random;
    private static Model model;
    private static int money;

    public static void main(String[] args) {
        for (int run = 0; run < RUNS && due.wrong() == 0; run++) {
            random = new Random(run);
            model = new Model();
            money = random.nextInt(3) == 0 ? 100000 : 400;
            Story story = new Story("run " + run);
            int length = 30 + random.nextInt(370);
            for (int c = 0; c < length; c++) {
                tell(story, next(c < 10 ? random.nextInt(2) : random.nextInt(27)));
            }
            story.endsAs(model);
            story.isDue(due);
        }
        for (int run = 0; run < 20 && due.wrong() == 0; run++) {
            fullHallThatPlays(run);
        }
        allCallsAreUsed();
        due.end();
    }

    private static void tell(Story story, Call call) {
        story.add(call, call.on(model));
    }

    private static void fullHallThatPlays(int run) {
        model = new Model();
        Story story = new Story("full hall " + run);
        for (int i = 0; i < 60; i++) {
            tell(story, Call.lot(i % 3, 1 + i, run % 2 == 0 ? 100 * i : 0));
        }
        for (int i = 0; i < 30; i++) {
            tell(story, Call.buyer(run % 3 == 0 ? 90000 : 1000000));
        }
        for (int i = 0; i < 100; i++) {
            tell(story, Call.play(1000L * run + i, 200));
        }
        story.endsAs(model);
        story.isDue(due);
    }

    /** The last of the calls that an object is promised for is as good as the first. */
    private static void allCallsAreUsed() {
        Story presses = begin("presses", 3);
        tell(presses, Call.start(0, 90000, 1));
        while (presses.length() < Counted.MOST_CALLS - 1) {
            tell(presses, Call.press(presses.length() % 2, 8000000 - presses.length()));
        }
        presses.endsAs(model);
        presses.isDue(due);
        Story outages = begin("outages", 3);
        tell(outages, Call.start(0, 90000, 1));
        while (outages.length() < Counted.MOST_CALLS - 4) {
            tell(outages, Call.tick(251));
            tell(outages, Call.outage(101, true));
            tell(outages, Call.outage(0, false));
        }
        outages.endsAs(model);
        outages.isDue(due);
        Story sets = begin("sets", 60);
        while (sets.length() < Counted.MOST_CALLS - 4) {
            tell(sets, Call.bid(sets.length() % 2, 10));
            tell(sets, Call.on(0, sets.length() % 60));
            tell(sets, Call.sets(2));
        }
        sets.endsAs(model);
        sets.isDue(due);
    }

    private static Story begin(String name, int lots) {
        model = new Model();
        Story story = new Story(name);
        for (int i = 0; i < lots; i++) {
            tell(story, Call.lot(0, 10, 5));
        }
        tell(story, Call.buyer(100000));
        tell(story, Call.buyer(100000));
        return story;
    }

    private static long edge() {
        return EDGES[random.nextInt(EDGES.length)];
    }

    /** Mostly small, now and then an edge. */
    private static long some(int bound) {
        return random.nextInt(25) == 0 ? edge() : random.nextInt(bound);
    }

    private static int lot() {
        return random.nextInt(30) == 0 ? (int) edge() : random.nextInt(model.lots() + 2) - random.nextInt(20) / 19;
    }

    private static int buyer() {
        return random.nextInt(30) == 0 ? (int) edge() : random.nextInt(model.buyers() + 1);
    }

    private static Call next(int what) {
        switch (what) {
            case 0:
                return Call.lot((int) some(3), some(12), some(60));
            case 1:
                return Call.buyer(some(money));
            case 2: case 3: case 4:
                return Call.start(lot(), some(200), some(20));
            case 5: case 6: case 7: case 8:
                return Call.press(buyer(), random.nextBoolean() ? some(1500) : random.nextInt(4) * 100L);
            case 9:
                return Call.delay(buyer(), some(random.nextBoolean() ? 300 : 5002));
            case 10: case 11: case 12:
                return Call.tick(random.nextInt(3) == 0 ? some(11000) : random.nextInt(400));
            case 13:
                return random.nextBoolean() ? Call.outage(some(400), true) : Call.outage(some(3) / 2, false);
            case 14:
                return Call.part(lot(), some(12));
            case 15:
                return Call.again(lot());
            default:
                return nextOfOffersAndSets(what);
        }
    }

    private static Call nextOfOffersAndSets(int what) {
        switch (what) {
            case 16: case 17: case 18:
                return Call.rise(lot(), buyer(), some(300));
            case 19:
                return Call.bid(buyer(), some(100));
            case 20: case 21: case 22: case 23:
                return Call.on((int) some(8), lot());
            case 24:
                return Call.sets(random.nextInt(3) == 0 ? some(64) : 512);
            case 25:
                return random.nextInt(4) == 0 ? Call.back(lot()) : Call.again(lot());
            default:
                return random.nextInt(6) == 0 ? Call.play(some(1000), (int) some(201)) : Call.tick(1 + some(50));
        }
    }
}
