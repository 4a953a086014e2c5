import java.util.ArrayList;
import java.util.List;

/** Calls and the answers that are due, and what is to be seen at their end. */
final class Story {
    private final String name;
    private final List<Call> calls = new ArrayList<>();
    private final List<Long> answers = new ArrayList<>();
    private List<Call> looks = new ArrayList<>();
    private List<Long> seen = new ArrayList<>();

    Story(String name) {
        this.name = name;
    }

    void add(Call call, long answer) {
        calls.add(call);
        answers.add(answer);
    }

    int length() {
        return calls.size();
    }

    Call call(int place) {
        return calls.get(place);
    }

    void endsAs(Model model) {
        looks = Looks.at(model);
        seen = new ArrayList<>();
        for (Call look : looks) {
            seen.add(look.on(model));
        }
    }

    /** The same with one call more, which shall make no difference. */
    Story with(int place, Call call, long answer) {
        Story longer = new Story(name + " with " + call.name + " at " + place);
        longer.calls.addAll(calls);
        longer.answers.addAll(answers);
        longer.calls.add(place, call);
        longer.answers.add(place, answer);
        longer.looks = looks;
        longer.seen = seen;
        return longer;
    }

    /** On as many objects as it takes to look at all within the calls that an object is promised for. */
    void isDue(Due due) {
        if (calls.size() >= Counted.MOST_CALLS) {
            throw new IllegalStateException(name + " leaves no call to look with");
        }
        int next = 0;
        while (next < looks.size() && due.wrong() == 0) {
            Counted real = new Counted();
            for (int c = 0; c < calls.size(); c++) {
                long got = calls.get(c).on(real);
                if (got != answers.get(c)) {
                    due.is(name + ": call " + c + ", " + calls.get(c).name, got, answers.get(c));
                }
            }
            while (next < looks.size() && real.callsLeft() > 0) {
                long got = looks.get(next).on(real);
                if (got != seen.get(next)) {
                    due.is(name + ": at the end " + looks.get(next).name, got, seen.get(next));
                }
                next++;
            }
        }
    }
}
