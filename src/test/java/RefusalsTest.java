import java.util.function.Consumer;
import java.util.function.ToLongFunction;

/**
 * "What is refused (by an answer below 0, or false) changes nothing; what is named first is tested
 * first." Each refusal alone, and each two or three that hold at once.
 */
public final class RefusalsTest {
    private static final int REFUSED = -1, FULL = -2, BUSY = -3;

    private final Check check = new Check();

    public static void main(String[] args) {
        RefusalsTest test = new RefusalsTest();
        test.kindWhileNotOver();
        test.methodWhileNotOver();
        test.stepWhileNotOver();
        test.stepOfAFullMethod();
        test.stepRefusedBeforeBusyBeforeFull();
        test.callWhileFull();
        test.callRefusedBeforeFull();
        test.limitsOneWrongOrBoth();
        test.forgetWhilePending();
        test.askedWithTwoWrong();
        test.whatIsNotRefusedWhileNotOver();
        test.check.finish();
    }

    private void refused(String what, Consumer<GrainHost> place, ToLongFunction<GrainHost> call, long want) {
        Twins.refused(check, place, what, call, want);
    }

    /** A request that waits, one that is ready, and one that awaits: each is not over. */
    private static Consumer<GrainHost> oneStands(int phase) {
        return x -> {
            Places.idle(x);
            x.fails(0);
            x.forget();
            x.call(7, 1, 0);
            x.run(phase);
        };
    }

    private static Consumer<GrainHost> eightSteps(Consumer<GrainHost> rest) {
        return x -> {
            Places.idle(x);
            for (int i = 0; i < 8; i++) {
                x.step(2, 3, Op.ADD, i, 0);
            }
            rest.accept(x);
        };
    }

    /** "False if .. a REQUEST is not OVER." */
    private void kindWhileNotOver() {
        for (int phase = 0; phase < 3; phase++) {
            GrainHost x = new GrainHost();
            oneStands(phase).accept(x);
            check.due("the request is", x.request(0, 1), phase);
            for (int i = 0; i < 16; i++) {
                int k = i / 4;
                boolean reentrant = i % 2 == 1;
                boolean kept = i / 2 % 2 == 1;
                refused("kind while one stands, " + phase, oneStands(phase), y -> y.kind(k, reentrant, kept) ? 1 : 0, 0);
            }
        }
        for (int k = 0; k < 4; k++) {
            int kind = k;
            refused("kind in a crowd", Places::crowd, x -> x.kind(kind, kind % 2 == 0, kind / 2 == 0) ? 1 : 0, 0);
        }
        refused("kind, both", Places::busy, x -> x.kind(4, true, true) ? 1 : 0, 0);
    }

    /** "REFUSED if k or m is not 0..3; BUSY if a REQUEST is not OVER." */
    private void methodWhileNotOver() {
        for (int phase = 0; phase < 3; phase++) {
            for (int i = 0; i < 16; i++) {
                int k = i / 4;
                int m = i % 4;
                refused("method while one stands", oneStands(phase), x -> x.method(k, m, m % 2 == 0, m / 2 == 0), BUSY);
            }
            refused("method, k wrong and busy", oneStands(phase), x -> x.method(4, 0, true, true), REFUSED);
            refused("method, k below and busy", oneStands(phase), x -> x.method(-1, 0, true, true), REFUSED);
            refused("method, m wrong and busy", oneStands(phase), x -> x.method(0, 4, true, true), REFUSED);
            refused("method, m below and busy", oneStands(phase), x -> x.method(0, -1, true, true), REFUSED);
            refused("method, all wrong", oneStands(phase), x -> x.method(-1, 4, true, true), REFUSED);
        }
    }

    /** "BUSY if a REQUEST is not OVER" */
    private void stepWhileNotOver() {
        for (int phase = 0; phase < 3; phase++) {
            for (int op = 0; op <= 14; op++) {
                int each = op;
                refused("step while one stands", oneStands(phase), x -> x.step(1, 1, each, 1, 1), BUSY);
            }
        }
        refused("step in a crowd", Places::crowd, x -> x.step(1, 1, Op.ADD, 1, 1), BUSY);
    }

    /** "FULL if it has 8." */
    private void stepOfAFullMethod() {
        for (int i = 0; i < 16; i++) {
            GrainHost x = new GrainHost();
            int k = i / 4;
            int m = i % 4;
            for (int s = 1; s <= 8; s++) {
                check.due("step " + s, x.step(k, m, Op.ADD, 1, 0), s);
            }
            check.due("a ninth", x.step(k, m, Op.ADD, 1, 0), FULL);
            check.due("and again", x.step(k, m, Op.SET, 1, 0), FULL);
            check.due("it has 8 still", x.method(k, m, false, false), 8);
            check.due("and room then", x.step(k, m, Op.ADD, 1, 0), 1);
        }
        for (int op = 0; op <= 14; op++) {
            int each = op;
            refused("a ninth step", eightSteps(x -> { }), x -> x.step(2, 3, each, 1, 1), FULL);
        }
    }

    private static final int[][] WRONG_STEPS = {
        {-1, 3, Op.ADD, 1, 0}, {4, 3, Op.ADD, 1, 0}, {2, -1, Op.ADD, 1, 0}, {2, 4, Op.ADD, 1, 0},
        {2, 3, -1, 1, 0}, {2, 3, 15, 1, 0}, {2, 3, Op.CALL, 32, 0}, {2, 3, Op.CALL, -1, 0},
        {2, 3, Op.CALL, 0, 4}, {2, 3, Op.CALL, 0, -1}, {2, 3, Op.TELL, 32, 0}, {2, 3, Op.TELL, -1, 0},
        {2, 3, Op.TELL, 0, 4}, {2, 3, Op.TELL, 0, -1}, {2, 3, Op.FAIL, 0, 0}, {2, 3, Op.FAIL, 100, 0},
        {2, 3, Op.TIMER, -1, 0}, {2, 3, Op.TIMER, 51, 0}, {2, 3, Op.REMIND, -1, 0}, {2, 3, Op.REMIND, 51, 0},
        {2, 3, Op.SKIP, 0, 0}, {2, 3, Op.SKIP, 8, 0}, {9, 9, 99, -9, -9}};

    /** "REFUSED if ..; BUSY if a REQUEST is not OVER; FULL if it has 8." */
    private void stepRefusedBeforeBusyBeforeFull() {
        Consumer<GrainHost> full = eightSteps(x -> { });
        Consumer<GrainHost> busyAndFull = eightSteps(x -> x.call(7, 1, 0));
        refused("busy before full", busyAndFull, x -> x.step(2, 3, Op.ADD, 1, 0), BUSY);
        for (int[] s : WRONG_STEPS) {
            String what = "step" + java.util.Arrays.toString(s);
            ToLongFunction<GrainHost> call = x -> x.step(s[0], s[1], s[2], s[3], s[4]);
            refused(what + " alone", Places::idle, call, REFUSED);
            refused(what + " before busy", Places::busy, call, REFUSED);
            refused(what + " before full", full, call, REFUSED);
            refused(what + " before both", busyAndFull, call, REFUSED);
        }
    }

    /** "FULL if there are 12 OUTSIDE calls, or 30 REQUESTS are not OVER." */
    private void callWhileFull() {
        for (int g = 0; g < 32; g += 5) {
            int each = g;
            refused("call behind 12 that ended", Places::twelveCalls, x -> x.call(each, 0, 1), FULL);
            refused("call in a crowd", Places::crowd, x -> x.call(each, 1, 1), FULL);
            refused("call, both", Places::crowdOfCalls, x -> x.call(each, 2, 1), FULL);
        }
    }

    /** "REFUSED if g is not 0..31 or m not 0..3; FULL if .." */
    private void callRefusedBeforeFull() {
        int[][] wrong = {{-1, 0}, {32, 0}, {0, -1}, {0, 4}, {-1, 4}, {32, -1}};
        for (int[] w : wrong) {
            ToLongFunction<GrainHost> call = x -> x.call(w[0], w[1], 1);
            refused("wrong before 12", Places::twelveCalls, call, REFUSED);
            refused("wrong before 30", Places::crowd, call, REFUSED);
            refused("wrong before both", Places::crowdOfCalls, call, REFUSED);
        }
    }

    /** "false for other numbers": neither is taken if one is wrong. */
    private void limitsOneWrongOrBoth() {
        int[][] wrong = {{-1, 3}, {101, 3}, {3, -1}, {3, 101}, {-1, 101}, {101, -1}, {-1, -1}, {101, 101}};
        for (int[] w : wrong) {
            refused("limits where nothing stands", Places::idle, x -> x.limits(w[0], w[1]) ? 1 : 0, 0);
            refused("limits where requests stand", Places::busy, x -> x.limits(w[0], w[1]) ? 1 : 0, 0);
        }
    }

    /** "BUSY if one is PENDING." */
    private void forgetWhilePending() {
        refused("forget, one of some", Places::busy, x -> x.forget(), BUSY);
        refused("forget, all of 12", Places::crowdOfCalls, x -> x.forget(), BUSY);
        for (int pending = 0; pending < 12; pending++) {
            int last = pending;
            GrainHost x = new GrainHost();
            onlyPending(x, last);
            for (int c = 0; c < 12; c++) {
                check.due("call " + c + " where only " + last + " is pending", x.ask(c, 0), c == last ? 0 : 1);
            }
            refused("forget, only call " + last, y -> onlyPending(y, last), y -> y.forget(), BUSY);
        }
    }

    /** Twelve calls, all of which but one have ended. */
    private static void onlyPending(GrainHost x, int last) {
        Op.steps(x, 3, 0, Op.CALL, 24, 1);
        Op.steps(x, 3, 1, Op.YIELD, 0, 0, Op.YIELD, 0, 0, Op.YIELD, 0, 0);
        for (int c = 0; c < 12; c++) {
            x.call(c == last ? 25 : c, 0, 0);
        }
        x.run(24);
    }

    /** Where two numbers are wrong the answer is the same. */
    private void askedWithTwoWrong() {
        refused("ask", Places::busy, x -> x.ask(12, 3), 1L << 40);
        refused("grain", Places::busy, x -> x.grain(32, 10), REFUSED);
        refused("request", Places::busy, x -> x.request(30, 10), REFUSED);
        refused("request of none", Places::idle, x -> x.request(0, 10), REFUSED);
    }

    /** Only what the document refuses is refused: limits, fails and restart are taken at any time. */
    private void whatIsNotRefusedWhileNotOver() {
        GrainHost x = new GrainHost();
        Places.crowdOfCalls(x);
        check.due("limits", x.limits(100, 100), true);
        check.due("fails", x.fails(20), 2);
        check.due("tick", x.tick(20) > 0, true);
        check.due("run", x.run(1), 1);
        check.due("restart", x.restart() > 0, true);
        check.due("kind when all are over", x.kind(0, true, true), true);
        check.due("method when all are over", x.method(0, 0, true, true), 4);
        check.due("step when all are over", x.step(0, 0, Op.ADD, 1, 0), 1);
        check.due("forget when none is pending", x.forget(), 12);
    }
}
