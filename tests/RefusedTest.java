import java.util.ArrayList;
import java.util.List;

/**
 * What is refused changes nothing: a story is told again and again with one refused call put in at one
 * place, and all that follows, and all that can be seen at its end, is what it was without that call.
 */
public final class RefusedTest {
    private static final int MIN = Integer.MIN_VALUE;
    private static final int MAX = Integer.MAX_VALUE;
    private static final Due due = new Due();

    public static void main(String[] args) {
        tell("a day", aDay(), refusals(7, 4, 3));
        tell("a full hall", aFullHall(), refusalsWhenFull());
        due.end();
    }

    private static void tell(String name, List<Call> calls, List<Call> refusals) {
        Story story = new Story(name);
        Model end = new Model();
        for (Call call : calls) {
            story.add(call, call.on(end));
        }
        story.endsAs(end);
        int told = 0;
        for (int place = 0; place < calls.size(); place++) {
            Model model = modelAt(calls, place);
            for (Call refused : refusals) {
                long answer = refused.on(model);
                if (isRefusal(refused, answer)) {
                    story.with(place, refused, answer).isDue(due);
                    told++;
                } else {
                    model = modelAt(calls, place);
                }
            }
        }
        due.holds(name + " was told often", told > 5000);
    }

    private static Model modelAt(List<Call> calls, int place) {
        Model model = new Model();
        for (Call call : calls.subList(0, place)) {
            call.on(model);
        }
        return model;
    }

    /** All answer -1 or false but rise(); a tick() that answers -1 is put in with a wrong length alone. */
    private static boolean isRefusal(Call call, long answer) {
        if (call.name.startsWith("rise")) {
            return answer != 0;
        }
        boolean asked = call.name.startsWith("press") || call.name.startsWith("delay")
            || call.name.startsWith("outage") || call.name.startsWith("on(");
        return answer == (asked ? 0 : -1);
    }

    /** Something of each promise; what waits (presses, offers, bids, delays) is seen later. */
    private static List<Call> aDay() {
        List<Call> s = new ArrayList<>();
        for (int i = 0; i < 7; i++) {
            s.add(Call.lot(i % 3, 10 + i % 2, 100));
        }
        s.add(Call.buyer(2000));
        s.add(Call.buyer(3000));
        s.add(Call.buyer(150));
        s.add(Call.buyer(2500));
        s.add(Call.delay(1, 100));
        aSaleByTheClock(s);
        anUnsoldLot(s);
        offersAndSets(s);
        theRest(s);
        return s;
    }

    private static void aSaleByTheClock(List<Call> s) {
        s.add(Call.start(0, 1000, 100));
        s.add(Call.press(0, 600));
        s.add(Call.press(1, 650));
        s.add(Call.tick(250));
        s.add(Call.press(3, 550));
        s.add(Call.press(2, 300));
        s.add(Call.outage(30, true));
        s.add(Call.tick(70));
        s.add(Call.outage(0, false));
        s.add(Call.press(0, 550));
        s.add(Call.press(1, 650));
        s.add(Call.press(3, 550));
        s.add(Call.press(2, 300));
        s.add(Call.tick(300));
        s.add(Call.delay(0, 40));
        s.add(Call.press(2, 540));
        s.add(Call.tick(60));
        s.add(Call.part(0, 4));
    }

    private static void anUnsoldLot(List<Call> s) {
        s.add(Call.start(1, 100, 1));
        s.add(Call.press(2, 99));
        s.add(Call.rise(6, 2, 120));
        s.add(Call.tick(100));
        s.add(Call.again(1));
        s.add(Call.start(1, 95, 1));
        s.add(Call.tick(599));
        s.add(Call.tick(1));
        s.add(Call.rise(6, 3, 130));
    }

    private static void offersAndSets(List<Call> s) {
        s.add(Call.rise(2, 1, 100));
        s.add(Call.bid(0, 500));
        s.add(Call.on(0, 3));
        s.add(Call.on(0, 4));
        s.add(Call.bid(1, 450));
        s.add(Call.on(1, 3));
        s.add(Call.tick(9999));
        s.add(Call.bid(2, 100));
        s.add(Call.on(2, 4));
        s.add(Call.sets(8));
        s.add(Call.rise(2, 0, 110));
        s.add(Call.tick(1));
        s.add(Call.back(1));
        s.add(Call.bid(3, 300));
        s.add(Call.bid(1, 200));
        s.add(Call.on(1, 7));
    }

    private static void theRest(List<Call> s) {
        s.add(Call.start(5, 400, 50));
        s.add(Call.press(2, 500));
        s.add(Call.press(1, 400));
        s.add(Call.tick(299));
        s.add(Call.tick(1));
        s.add(Call.tick(9998));
        s.add(Call.tick(1));
        s.add(Call.lot(1, 20, 50));
        s.add(Call.buyer(700));
        s.add(Call.rise(8, 4, 60));
        s.add(Call.sets(4));
        s.add(Call.lot(2, 5, 30));
        s.add(Call.start(9, 130, 1));
        s.add(Call.press(0, 140));
        s.add(Call.press(1, 240));
        s.add(Call.press(3, 100));
        s.add(Call.tick(10100));
        s.add(Call.play(12345, 100));
        s.add(Call.bid(0, 1));
        s.add(Call.sets(2));
    }

    private static List<Call> aFullHall() {
        List<Call> s = new ArrayList<>();
        for (int i = 0; i < 59; i++) {
            s.add(Call.lot(9, 10, 50));
        }
        for (int i = 0; i < 30; i++) {
            s.add(Call.buyer(1000 + i));
        }
        s.add(Call.start(0, 60, 1));
        s.add(Call.press(29, 0));
        s.add(Call.tick(1));
        s.add(Call.part(0, 4));
        s.add(Call.start(59, 60, 1));
        s.add(Call.press(28, 0));
        s.add(Call.tick(1));
        for (int i = 0; i < 9; i++) {
            s.add(Call.bid(i, 100));
            s.add(Call.on(i, 50 + i));
        }
        for (int i = 9; i < 18; i++) {
            s.add(Call.bid(i, 0));
        }
        s.add(Call.start(1, 55, 1));
        s.add(Call.press(29, 599));
        s.add(Call.tick(600));
        s.add(Call.sets(1 << 18));
        return s;
    }

    private static List<Call> refusals(int lots, int buyers, int bids) {
        List<Call> r = new ArrayList<>();
        addOfHall(r);
        addOfClock(r, buyers);
        addOfSets(r, buyers);
        for (int lot : new int[] {-1, 0, 1, 2, 3, 4, 5, 6, lots, lots + 3, MIN, MAX}) {
            addOfLot(r, lot);
            addOfRises(r, lot, buyers);
            for (int bid : new int[] {-1, 0, 1, 2, bids, 18, MIN, MAX}) {
                r.add(Call.on(bid, lot));
            }
        }
        return r;
    }

    private static void addOfHall(List<Call> r) {
        r.add(Call.lot(-1, 1, 0));
        r.add(Call.lot(10, 1, 0));
        r.add(Call.lot(0, 0, 0));
        r.add(Call.lot(0, 1000000001L, 0));
        r.add(Call.lot(0, 1, -1));
        r.add(Call.lot(0, 1, 1000000001L));
        r.add(Call.buyer(-1));
        r.add(Call.buyer(1000000000001L));
        for (int turns : new int[] {0, -1, 201, MIN, MAX}) {
            r.add(Call.play(1, turns));
        }
    }

    private static void addOfClock(List<Call> r, int buyers) {
        for (long ms : Edges.outside(1, 1000000)) {
            r.add(Call.tick(ms));
        }
        for (long ms : new long[] {-1, 0, 1, 50, 1000000, Long.MIN_VALUE, Long.MAX_VALUE}) {
            r.add(Call.outage(ms, true));
            r.add(Call.outage(ms, false));
        }
        for (int buyer : new int[] {-1, 0, 1, 2, 3, buyers, 30, MIN, MAX}) {
            for (long ms : new long[] {-1, 0, 99, 300, 560, 700, 20000000, 20000001, Long.MIN_VALUE, Long.MAX_VALUE}) {
                r.add(Call.press(buyer, ms));
            }
            for (long ms : new long[] {-1, 0, 77, 5001, Long.MIN_VALUE, Long.MAX_VALUE}) {
                r.add(Call.delay(buyer, ms));
            }
        }
    }

    private static void addOfSets(List<Call> r, int buyers) {
        for (int buyer : new int[] {-1, 0, 1, buyers, 30, MIN, MAX}) {
            for (long cents : new long[] {-1, 5, 1000000000001L, Long.MIN_VALUE, Long.MAX_VALUE}) {
                r.add(Call.bid(buyer, cents));
            }
        }
        for (long nodes : new long[] {Long.MIN_VALUE, -1, 0, 1, 2, 3, 4, 7, Long.MAX_VALUE}) {
            r.add(Call.sets(nodes));
        }
    }

    private static void addOfLot(List<Call> r, int lot) {
        r.add(Call.again(lot));
        r.add(Call.back(lot));
        for (long grams : new long[] {-1, 0, 1, 4, 10, 11, Long.MIN_VALUE, Long.MAX_VALUE}) {
            r.add(Call.part(lot, grams));
        }
        r.add(Call.start(lot, 100, 1));
        r.add(Call.start(lot, 89, 1));
        r.add(Call.start(lot, 1000000001L, 1000000));
        r.add(Call.start(lot, 100, 0));
        r.add(Call.start(lot, 100, 1000001));
        r.add(Call.start(lot, 1000000000L, 1));
    }

    private static void addOfRises(List<Call> r, int lot, int buyers) {
        for (int buyer : new int[] {-1, 0, 1, 2, buyers, MAX}) {
            for (long cents : new long[] {-1, 0, 89, 100, 115, 151, 3001, Long.MAX_VALUE}) {
                r.add(Call.rise(lot, buyer, cents));
            }
        }
    }

    private static List<Call> refusalsWhenFull() {
        List<Call> r = new ArrayList<>();
        r.add(Call.lot(0, 1, 0));
        r.add(Call.lot(9, 10, 50));
        r.add(Call.buyer(0));
        r.add(Call.buyer(5000));
        r.add(Call.bid(0, 0));
        r.add(Call.bid(29, 100));
        for (int lot : new int[] {0, 1, 50, 59, 60, 61, 63, 64, MAX}) {
            addOfLot(r, lot);
            r.add(Call.rise(lot, 29, 500));
            r.add(Call.rise(lot, 30, 500));
            for (int bid : new int[] {0, 17, 18, 31, 32, MAX}) {
                r.add(Call.on(bid, lot));
            }
        }
        for (int buyer : new int[] {29, 30, 31, 32, 61}) {
            r.add(Call.press(buyer, 0));
            r.add(Call.delay(buyer, 5));
            r.add(Call.bid(buyer, 1));
        }
        for (long nodes : new long[] {1, 1L << 9, (1L << 17) - 1, 1L << 17, (1L << 18) - 1}) {
            r.add(Call.sets(nodes));
        }
        return r;
    }
}
