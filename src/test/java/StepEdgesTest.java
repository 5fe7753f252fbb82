/** The edges of steps: the last one, what stands next, what is passed over, the least and greatest code. */
public final class StepEdgesTest {
    private final Check check = new Check();

    public static void main(String[] args) {
        StepEdgesTest test = new StepEdgesTest();
        test.kindsOfGrains();
        test.skipsOfEachLength();
        test.skipsPastTheEnd();
        test.skipsBelowZeroAlone();
        test.skipsOverStepsThatWouldFail();
        test.codes();
        test.codesAreCaught();
        test.aCallThatIsTheEighthStep();
        test.aCatchThatIsTheEighthStep();
        test.onlyTheNextStepCatches();
        test.onlyOneCatchIsUsed();
        test.aCatchThatNothingFailsBefore();
        test.leavingAndTimersBeforeAFailure();
        test.yieldsGoOnBehind();
        test.repliesAfterARestartTellNothing();
        test.callersThatAreOver();
        test.check.finish();
    }

    private static GrainHost done(int... steps) {
        GrainHost x = new GrainHost();
        Op.steps(x, 0, 0, steps);
        x.call(0, 0, 0);
        x.run(40);
        return x;
    }

    /** "grain g is of KIND g / 8 (0..3)": 0, 7, 8, 15, 16, 23, 24, 31 and all between. */
    private void kindsOfGrains() {
        GrainHost x = new GrainHost();
        for (int k = 0; k < 4; k++) {
            for (int m = 0; m < 4; m++) {
                x.step(k, m, Op.SET, 10 * k + m, 0);
            }
        }
        for (int g = 0; g < 32; g++) {
            for (int m = 0; m < 4; m++) {
                x.call(g, m, 0);
                x.run(40);
                check.due("grain " + g + " method " + m, x.ask(0, 1), 10 * (g / 8) + m);
                x.forget();
            }
        }
    }

    /** "12 SKIP a: if R is below 0 the next a STEPS (1..7) are passed over" */
    private void skipsOfEachLength() {
        for (int a = 1; a <= 7; a++) {
            GrainHost x = new GrainHost();
            Op.steps(x, 0, 0, Op.CALL, 8, 0, Op.CATCH, 0, 0, Op.SKIP, a, 0);
            Op.steps(x, 1, 0, Op.FAIL, 1, 0);
            int due = 0;
            for (int s = 0; s < 5; s++) {
                x.step(0, 0, Op.ADD, 1 << s, 0);
                due += s >= a ? 1 << s : 0;
            }
            x.call(0, 0, 0);
            x.run(40);
            check.due("SKIP " + a, x.ask(0, 1), due);
            check.due("a result", x.ask(0, 0), 1);
        }
    }

    /** "or there are none left": passed over or done, it is over with the state as its result. */
    private void skipsPastTheEnd() {
        for (int a = 1; a <= 7; a++) {
            GrainHost x = done(Op.SET, -3, 0, Op.LET, 0, 0, Op.SKIP, a, 0);
            check.due("SKIP " + a + " as the last step", x.ask(0, 1), -3);
            check.due("a result", x.ask(0, 0), 1);
            GrainHost y = done(Op.SET, -3, 0, Op.LET, 0, 0, Op.ADD, 0, 0, Op.ADD, 0, 0, Op.ADD, 0, 0, Op.ADD, 0, 0,
                Op.ADD, 0, 0, Op.SKIP, a, 0);
            check.due("SKIP " + a + " as the eighth step", y.ask(0, 1), -3);
        }
    }

    private void skipsBelowZeroAlone() {
        int[] below = {Integer.MIN_VALUE, -2, -1};
        for (int r : below) {
            check.due("R is " + r, done(Op.SET, r, 0, Op.LET, 0, 0, Op.SET, 0, 0, Op.SKIP, 1, 0, Op.ADD, 1, 0).ask(0, 1), 0);
        }
        int[] others = {0, 1, Integer.MAX_VALUE};
        for (int r : others) {
            check.due("R is " + r, done(Op.SET, r, 0, Op.LET, 0, 0, Op.SET, 0, 0, Op.SKIP, 1, 0, Op.ADD, 1, 0).ask(0, 1), 1);
        }
        check.due("the state does not count", done(Op.SET, -1, 0, Op.SKIP, 1, 0, Op.ADD, 1, 0).ask(0, 1), 0);
    }

    /** What is passed over is not done at all: no call, no tell, no failure, no yield. */
    private void skipsOverStepsThatWouldFail() {
        GrainHost x = done(Op.SET, -1, 0, Op.LET, 0, 0, Op.SKIP, 5, 0, Op.FAIL, 9, 0, Op.CALL, 8, 0, Op.TELL, 9, 0,
            Op.YIELD, 0, 0, Op.LEAVE, 0, 0);
        check.due("a result", x.ask(0, 1), -1);
        check.due("one request", x.count(1), 1);
        check.due("two turns", x.count(3), 2);
        check.due("not leaving", x.grain(0, 0), 2);
    }

    /** "7 FAIL a (1..99): it FAILS with a" */
    private void codes() {
        for (int a = 1; a <= 99; a++) {
            GrainHost x = done(Op.ADD, 2, 0, Op.FAIL, a, 0, Op.ADD, 4, 0);
            check.due("failed", x.ask(0, 0), 2);
            check.due("with", x.ask(0, 1), a);
            check.due("the state stays", x.grain(0, 1), 2);
            check.due("its grain too", x.grain(0, 0), 2);
        }
    }

    /** "makes R the code less than 0 (-code)" */
    private void codesAreCaught() {
        for (int a = 1; a <= 99; a++) {
            GrainHost x = new GrainHost();
            Op.steps(x, 0, 0, Op.CALL, 8, 0, Op.CATCH, 0, 0, Op.KEEP, 0, 0);
            Op.steps(x, 1, 0, Op.FAIL, a, 0);
            x.call(0, 0, 0);
            x.run(4);
            check.due("R", x.request(0, 5), -a);
            x.run(1);
            check.due("result", x.ask(0, 1), -a);
        }
    }

    private static GrainHost eighth(int... last) {
        GrainHost x = new GrainHost();
        for (int s = 0; s < 8 - last.length / 3; s++) {
            x.step(0, 0, Op.ADD, 1, 0);
        }
        Op.steps(x, 0, 0, last);
        Op.steps(x, 1, 0, Op.FAIL, 5, 0);
        Op.steps(x, 1, 1, Op.SET, 6, 0);
        x.call(0, 0, 0);
        x.run(40);
        return x;
    }

    /** "behind a CALL the next STEP of which is a CATCH": there is no next one. */
    private void aCallThatIsTheEighthStep() {
        check.due("failed", eighth(Op.CALL, 8, 0).ask(0, 0), 2);
        check.due("with", eighth(Op.CALL, 8, 0).ask(0, 1), 5);
        check.due("not failed", eighth(Op.CALL, 8, 1).ask(0, 0), 1);
        check.due("its state, not the result of the call", eighth(Op.CALL, 8, 1).ask(0, 1), 7);
    }

    /** "it goes on behind the CATCH": there is none left. */
    private void aCatchThatIsTheEighthStep() {
        GrainHost x = eighth(Op.CALL, 8, 0, Op.CATCH, 0, 0);
        check.due("a result", x.ask(0, 0), 1);
        check.due("which is the state", x.ask(0, 1), 6);
        check.due("all over", x.count(2), 0);
    }

    private void onlyTheNextStepCatches() {
        check.due("before the call", eighth(Op.CATCH, 0, 0, Op.CALL, 8, 0).ask(0, 1), 5);
        check.due("one step farther", eighth(Op.CALL, 8, 0, Op.ADD, 0, 0, Op.CATCH, 0, 0).ask(0, 1), 5);
        check.due("behind the next call", eighth(Op.CALL, 8, 0, Op.CALL, 8, 1, Op.CATCH, 0, 0).ask(0, 1), 5);
        check.due("of another method", eighth(Op.CALL, 8, 0).ask(0, 1), 5);
        check.due("behind a skip", eighth(Op.CALL, 8, 0, Op.SKIP, 1, 0, Op.CATCH, 0, 0).ask(0, 0), 2);
    }

    private void onlyOneCatchIsUsed() {
        check.due("two catches", eighth(Op.CALL, 8, 0, Op.CATCH, 0, 0, Op.CATCH, 0, 0, Op.KEEP, 0, 0).ask(0, 1), -1);
        GrainHost x = eighth(Op.CALL, 8, 0, Op.CATCH, 0, 0, Op.CALL, 8, 0);
        check.due("the second call is not caught", x.ask(0, 0), 2);
        check.due("a failure behind it neither", eighth(Op.CALL, 8, 0, Op.CATCH, 0, 0, Op.FAIL, 8, 0).ask(0, 1), 8);
    }

    /** "11 CATCH: nothing" */
    private void aCatchThatNothingFailsBefore() {
        check.due("alone", done(Op.CATCH, 0, 0).ask(0, 0), 1);
        check.due("R stays", done(Op.SET, 4, 0, Op.LET, 0, 0, Op.CATCH, 0, 0, Op.KEEP, 0, 0).ask(0, 1), 8);
        check.due("behind a result", eighth(Op.CALL, 8, 1, Op.CATCH, 0, 0, Op.KEEP, 0, 0).ask(0, 1), 11);
    }

    /** What was done before a failure stays done. */
    private void leavingAndTimersBeforeAFailure() {
        GrainHost x = done(Op.TIMER, 50, 0, Op.REMIND, 50, 0, Op.TELL, 8, 0, Op.FAIL, 1, 0);
        check.due("timer", x.grain(0, 4), 50);
        check.due("reminder", x.grain(0, 8), 50);
        check.due("told", x.grain(8, 0), 2);
        GrainHost y = done(Op.LEAVE, 0, 0, Op.FAIL, 1, 0);
        check.due("gone", y.grain(0, 0), 0);
        check.due("failed", y.ask(0, 1), 1);
    }

    /** "6 YIELD: it is READY, at the back of the LINE, and goes on behind this STEP" */
    private void yieldsGoOnBehind() {
        GrainHost x = new GrainHost();
        Op.steps(x, 0, 0, Op.YIELD, 0, 0, Op.ADD, 1, 0);
        x.call(0, 0, 0);
        x.run(2);
        check.due("the first step yields", x.request(0, 6), 1);
        check.due("alone in line", x.line(0), 0);
        check.due("ready", x.request(0, 1), 1);
        check.due("the last turn", x.run(40), 1);
        check.due("result", x.ask(0, 1), 1);
    }

    /** Rows of requests that a restart ended are used again: nothing of them is told to new ones. */
    private void repliesAfterARestartTellNothing() {
        GrainHost x = new GrainHost();
        Op.steps(x, 0, 0, Op.CALL, 8, 0, Op.ADD, 1, 0);
        Op.steps(x, 1, 0, Op.SET, 9, 0);
        x.call(0, 0, 0);
        x.run(3);
        check.due("one awaits, one is ready", x.restart(), 2);
        check.due("stopped", x.ask(0, 1), 104);
        x.call(16, 0, 0);
        x.call(8, 0, 0);
        x.run(40);
        check.due("stopped still", x.ask(0, 1), 104);
        check.due("a result of its own", x.ask(1, 1), 0);
        check.due("and of its own", x.ask(2, 1), 9);
        check.due("three turns before it and four behind", x.count(3), 7);
    }

    /** "if its CALLER is a REQUEST that AWAITS it still": one that is over by LATE is told nothing. */
    private void callersThatAreOver() {
        GrainHost x = new GrainHost();
        Op.steps(x, 0, 0, Op.CALL, 8, 0, Op.ADD, 1, 0);
        Op.steps(x, 1, 0, Op.FAIL, 9, 0);
        x.limits(1, 0);
        x.call(0, 0, 0);
        x.run(2);
        x.tick(1);
        check.due("late", x.ask(0, 1), 103);
        check.due("the called one stands alone", x.count(2), 1);
        x.limits(0, 0);
        x.call(0, 1, 0);
        x.run(40);
        check.due("late still", x.ask(0, 1), 103);
        check.due("no step behind the call was done", x.grain(0, 1), 0);
        check.due("a later one has its own result", x.ask(1, 1), 0);
    }
}
