import java.util.ArrayList;
import java.util.List;

/** Calls that look at all that can be seen and change nothing. */
final class Looks {
    private Looks() {
    }

    static List<Call> at(Model model) {
        List<Call> looks = new ArrayList<>();
        looks.add(new Call("clock()", a -> a.clock()));
        looks.add(new Call("sum()", a -> a.sum()));
        looks.add(Call.asked("proved()", a -> a.proved()));
        looks.add(Call.asked("chained()", a -> a.chained()));
        for (int i = 0; i <= model.lots(); i++) {
            atLot(looks, i);
        }
        for (int i = 0; i <= model.buyers(); i++) {
            int buyer = i;
            looks.add(new Call("held(" + buyer + ")", a -> a.held(buyer)));
        }
        for (int i = 0; i <= 18; i++) {
            int bid = i;
            looks.add(Call.asked("wins(" + bid + ")", a -> a.wins(bid)));
        }
        for (int kind = 0; kind < 3; kind++) {
            addOrder(looks, model, kind);
        }
        for (int k = 0; k <= model.records(); k++) {
            addRecord(looks, k);
        }
        return looks;
    }

    private static void atLot(List<Call> looks, int lot) {
        looks.add(new Call("winner(" + lot + ")", a -> a.winner(lot)));
        looks.add(new Call("price(" + lot + ")", a -> a.price(lot)));
        looks.add(new Call("left(" + lot + ")", a -> a.left(lot)));
        looks.add(new Call("fee(" + lot + ")", a -> a.fee(lot)));
        for (int i = 0; i < 3; i++) {
            int k = i;
            looks.add(new Call("tie(" + lot + ", " + k + ")", a -> a.tie(lot, k)));
        }
    }

    /** Up to the first that there is not. */
    private static void addOrder(List<Call> looks, Model model, int kind) {
        for (int i = 0; i <= model.lots(); i++) {
            int k = i;
            looks.add(new Call("order(" + kind + ", " + k + ")", a -> a.order(kind, k)));
            if (model.order(kind, k) == -1) {
                return;
            }
        }
    }

    private static void addRecord(List<Call> looks, int k) {
        for (int i = 0; i < 5; i++) {
            int what = i;
            looks.add(new Call("record(" + k + ", " + what + ")", a -> a.record(k, what)));
        }
    }
}
