import java.util.ArrayList;
import java.util.List;
import java.util.function.ToLongFunction;

/**
 * A SetHouse that is never used for more than 512 calls, as what it would answer then is free. Before the 513th
 * one another object is made, and all calls that changed something are made on it again. Of those that only
 * showed a value (work, value, seen) the latest are enough, as no test looks at what was shown before them.
 */
final class House {
    private static final int MOST_CALLS = 512;
    private static final int LATEST = 3;

    /** A call that changed something. */
    private static final class Deed {
        final ToLongFunction<SetHouse> call;
        // Which of the values that were shown it belongs to; 0: none.
        int shown;

        Deed(ToLongFunction<SetHouse> call) {
            this.call = call;
        }
    }

    private SetHouse house = new SetHouse();
    private int calls;
    private int values;
    private final List<Deed> deeds = new ArrayList<>();
    // Those that brought what is on the tape.
    private final List<Deed> tape = new ArrayList<>();

    private long ask(ToLongFunction<SetHouse> call) {
        if (calls >= MOST_CALLS) {
            renew();
        }
        calls++;
        return call.applyAsLong(house);
    }

    /** A call that throws changes nothing, so that it need not be made again. */
    private long change(ToLongFunction<SetHouse> call) {
        long answer = ask(call);
        deeds.add(new Deed(call));
        return answer;
    }

    private void renew() {
        forget(LATEST);
        for (int latest = LATEST - 1; latest >= 0 && deeds.size() >= MOST_CALLS; latest--) {
            forget(latest);
        }
        if (deeds.size() >= MOST_CALLS) {
            throw new AssertionError("a test uses one object for more than 512 calls");
        }
        house = new SetHouse();
        for (Deed deed : deeds) {
            deed.call.applyAsLong(house);
        }
        calls = deeds.size();
    }

    private void forget(int latest) {
        int last = values - latest;
        deeds.removeIf(deed -> deed.shown != 0 && deed.shown <= last);
    }

    private Deed newest() {
        return deeds.get(deeds.size() - 1);
    }

    private long onTape(ToLongFunction<SetHouse> call) {
        long answer = change(call);
        tape.add(newest());
        return answer;
    }

    private long fromTape(ToLongFunction<SetHouse> call) {
        long answer = change(call);
        tape.clear();
        return answer;
    }

    private long show(ToLongFunction<SetHouse> call) {
        long answer = change(call);
        values++;
        newest().shown = values;
        return answer;
    }

    private long showFromTape(ToLongFunction<SetHouse> call) {
        long answer = show(call);
        for (Deed deed : tape) {
            deed.shown = values;
        }
        tape.clear();
        return answer;
    }

    int feed(int a, int b, int c, int d, int e) {
        return (int) onTape(h -> h.feed(a, b, c, d, e));
    }

    void end(int n) {
        onTape(h -> {
            h.end(n);
            return 0;
        });
    }

    int program() {
        return (int) fromTape(SetHouse::program);
    }

    int view() {
        return (int) fromTape(SetHouse::view);
    }

    int work() {
        return (int) showFromTape(SetHouse::work);
    }

    int value() {
        return (int) showFromTape(SetHouse::value);
    }

    int seen(int view, int which) {
        return (int) show(h -> h.seen(view, which));
    }

    void start(long seed) {
        change(h -> {
            h.start(seed);
            return 0;
        });
    }

    int step(int n) {
        return (int) change(h -> h.step(n));
    }

    int back(int n) {
        return (int) change(h -> h.back(n));
    }

    int round() {
        return (int) change(SetHouse::round);
    }

    int fault() {
        return (int) ask(SetHouse::fault);
    }

    int state(int what) {
        return (int) ask(h -> h.state(what));
    }

    int out(int i) {
        return (int) ask(h -> h.out(i));
    }

    int shown(int i) {
        return (int) ask(h -> h.shown(i));
    }

    int shape(int what) {
        return (int) ask(h -> h.shape(what));
    }

    int order() {
        return (int) ask(SetHouse::order);
    }

    int count(int what) {
        return (int) ask(h -> h.count(what));
    }
}
