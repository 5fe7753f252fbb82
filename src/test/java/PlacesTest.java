import java.util.function.Consumer;

/** The places that other tests start from are what they are said to be. */
public final class PlacesTest {
    private static final int NOT_OVER = 2, CALLS = 7;

    public static void main(String[] args) {
        Check check = new Check();
        GrainHost idle = at(Places::idle);
        check.due("idle: not over", idle.count(NOT_OVER), 0);
        check.due("idle: calls", idle.count(CALLS), 2);
        check.due("idle: timer", idle.grain(17, 4), 3);
        check.due("idle: reminder", idle.grain(17, 8), 5);
        check.due("idle: for two ticks", idle.grain(17, 5), 2);
        for (int k = 0; k < 4; k++) {
            check.due("idle: stored", idle.grain(8 * k, 6) != 0, true);
        }
        busy(check, at(Places::busy));
        GrainHost twelve = at(Places::twelveCalls);
        check.due("twelve: not over", twelve.count(NOT_OVER), 0);
        check.due("twelve: calls", twelve.count(CALLS), 12);
        GrainHost crowd = at(Places::crowd);
        check.due("crowd: not over", crowd.count(NOT_OVER), 30);
        check.due("crowd: calls", crowd.count(CALLS), 0);
        GrainHost calls = at(Places::crowdOfCalls);
        check.due("crowd of calls: not over", calls.count(NOT_OVER), 30);
        check.due("crowd of calls: calls", calls.count(CALLS), 12);
        twinsSee(check);
        check.finish();
    }

    private static GrainHost at(Consumer<GrainHost> place) {
        GrainHost x = new GrainHost();
        place.accept(x);
        return x;
    }

    private static void busy(Check check, GrainHost x) {
        int[] seen = new int[3];
        for (int k = 0; k < x.count(NOT_OVER); k++) {
            seen[x.request(k, 1)]++;
        }
        check.due("busy: waiting", seen[0] > 0, true);
        check.due("busy: ready", seen[1] > 0, true);
        check.due("busy: awaiting", seen[2] > 0, true);
        int coming = 0;
        for (int k = 0; k < x.count(6); k++) {
            coming += x.line(k) < -1 ? 1 : 0;
        }
        check.due("busy: coming", coming > 0, true);
        check.due("busy: a call is pending", x.forget(), -3);
    }

    /** A change of each thing that can't be asked at once is seen by Twins. */
    private static void twinsSee(Check check) {
        check.due("the same", Twins.firstUnlike(Places::idle, Places::idle) == -1, true);
        seen(check, "limit", x -> x.limits(61, 70));
        seen(check, "age", x -> x.limits(60, 71));
        for (int k = 0; k < 4; k++) {
            int kind = k;
            boolean reentrant = k % 2 == 1;
            boolean kept = k / 2 == 1;
            seen(check, "reentrant " + k, x -> x.kind(kind, !reentrant, kept));
            seen(check, "kept " + k, x -> x.kind(kind, reentrant, !kept));
            for (int m = 0; m < 4; m++) {
                int method = m;
                seen(check, "a step more of " + k + ", " + m, x -> x.step(kind, method, Op.CATCH, 0, 0));
                seen(check, "no steps of " + k + ", " + m, x -> x.method(kind, method, method % 2 == 1, method / 2 == 1));
                flagsSeen(check, kind, method);
            }
        }
    }

    private static void flagsSeen(Check check, int k, int m) {
        for (int flags = 0; flags < 4; flags++) {
            boolean open = flags % 2 == 1;
            boolean reading = flags / 2 == 1;
            boolean same = flags == 0;
            int unlike = Twins.firstUnlike(x -> x.method(k, m, false, false), x -> x.method(k, m, open, reading));
            check.due("flags " + flags + " of " + k + ", " + m, unlike == -1, same);
        }
    }

    private static void seen(Check check, String what, Consumer<GrainHost> change) {
        Consumer<GrainHost> changed = x -> {
            Places.idle(x);
            change.accept(x);
        };
        check.due(what + " is seen", Twins.firstUnlike(Places::idle, changed) >= 0, true);
    }
}
