import java.util.function.Consumer;
import java.util.function.ToLongFunction;

/**
 * Two hosts that were brought to the same place. One of them is asked for what is refused; then both
 * are led on by the same calls, so that also what can't be asked at once (steps, flags, limits, who
 * is told of what) is found to be as it was.
 */
final class Twins {
    private final Face one;
    private final Face other;
    private int calls;
    private int firstUnlike = -1;

    private Twins(GrainHost one, GrainHost other) {
        this.one = new RealHost(one);
        this.other = new RealHost(other);
    }

    /** Finds that a call, in a place, answers what is due and changes nothing at all. */
    static void refused(Check check, Consumer<GrainHost> place, String what, ToLongFunction<GrainHost> call, long want) {
        GrainHost one = new GrainHost();
        GrainHost other = new GrainHost();
        place.accept(one);
        place.accept(other);
        check.due(what, call.applyAsLong(other), want);
        check.due(what + " changed what is seen by call", new Twins(one, other).leadOn(), -1);
    }

    /** Finds that two places are the same one. */
    static void alike(Check check, String what, Consumer<GrainHost> place, Consumer<GrainHost> samePlace) {
        check.due(what + " is seen by call", firstUnlike(place, samePlace), -1);
    }

    /** By which call that leads on from two places it is seen that they are two, -1 if by none. */
    static int firstUnlike(Consumer<GrainHost> place, Consumer<GrainHost> otherPlace) {
        GrainHost one = new GrainHost();
        GrainHost other = new GrainHost();
        place.accept(one);
        otherPlace.accept(other);
        return new Twins(one, other).leadOn();
    }

    private void both(ToLongFunction<Face> call) {
        boolean same = call.applyAsLong(one) == call.applyAsLong(other)
            && Snapshot.firstOther(Snapshot.of(one), Snapshot.of(other)) == -1;
        if (!same && firstUnlike < 0) {
            firstUnlike = calls;
        }
        calls++;
    }

    private int leadOn() {
        both(x -> x.count(0));
        whatStandsGoesOn();
        limitAndAge();
        kinds();
        methods();
        return firstUnlike;
    }

    private void whatStandsGoesOn() {
        both(x -> x.tick(1));
        for (int i = 0; i < 20; i++) {
            both(x -> x.run(1));
        }
        both(x -> x.tick(2));
        both(x -> x.run(40));
        both(x -> x.run(40));
    }

    /** A call that is pending and grains that are idle, for longer than any limit or age. */
    private void limitAndAge() {
        both(x -> x.restart());
        both(x -> x.forget());
        both(x -> x.fails(0));
        both(x -> x.call(31, 1, 0));
        both(x -> x.call(15, 1, 0));
        both(x -> x.run(40));
        both(x -> x.call(7, 1, 0));
        for (int i = 0; i < 101; i++) {
            both(x -> x.tick(1));
        }
    }

    /** Two calls at once show a kind that is reentrant, and the first state one that is kept. */
    private void kinds() {
        for (int k = 0; k < 4; k++) {
            int g = 8 * k;
            pair(g, 0, 0);
        }
    }

    /** Each two methods at once show whether they are open or reading, and their ends the steps. */
    private void methods() {
        for (int k = 0; k < 4; k++) {
            int kind = k;
            both(x -> x.restart());
            both(x -> x.kind(kind, false, false) ? 1 : 0);
            for (int pair = 0; pair < 16; pair++) {
                pair(8 * k, pair / 4, pair % 4);
            }
        }
        both(x -> x.restart());
        for (int way = 0; way < 16; way++) {
            int k = way / 4;
            int m = way % 4;
            both(x -> x.method(k, m, false, false));
        }
    }

    private void pair(int g, int first, int second) {
        both(x -> x.restart());
        both(x -> x.forget());
        both(x -> x.call(g, first, 1000));
        both(x -> x.call(g, second, 1000));
        both(x -> x.run(1));
        both(x -> x.run(40));
    }
}
