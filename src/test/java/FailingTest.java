/** Promise 9: what fails, what is caught, and what comes of a request's end. */
public final class FailingTest {
    public static void main(String[] args) {
        Check check = new Check();
        caughtAndNot(check);
        aCallThatIsTheLastStep(check);
        rowsAreUsedAgain(check);
        failsThroughCallers(check);
        brokenComing(check);
        crowd(check);
        crowdThatIsTold(check);
        endsInOrder(check);
        callerBeforeTheGrain(check);
        leavingThroughAFailure(check);
        check.finish();
    }

    private static void caughtAndNot(Check check) {
        GrainHost x = new GrainHost();
        Op.steps(x, 0, 0, Op.CALL, 8, 0, Op.CATCH, 0, 0, Op.KEEP, 0, 0);
        Op.steps(x, 0, 1, Op.CALL, 8, 0, Op.ADD, 1, 0, Op.CATCH, 0, 0);
        Op.steps(x, 0, 2, Op.CALL, 8, 1, Op.CATCH, 0, 0, Op.KEEP, 0, 0);
        Op.steps(x, 0, 3, Op.CALL, 8, 0);
        Op.steps(x, 1, 0, Op.FAIL, 42, 0);
        Op.steps(x, 1, 1, Op.SET, 5, 0);
        x.call(0, 0, 0);
        x.run(4);
        check.due("its own int is less than 0", x.request(0, 5), -42);
        check.due("it goes on behind the catch", x.request(0, 6), 2);
        check.due("it is ready", x.request(0, 1), 1);
        x.run(1);
        check.due("result", x.ask(0, 1), -42);
        x.call(1, 1, 0);
        x.run(40);
        check.due("a catch that is not next", x.ask(1, 1), 42);
        check.due("fails", x.ask(1, 0), 2);
        check.due("no step behind was done", x.grain(1, 1), 0);
        x.call(2, 2, 0);
        x.run(40);
        check.due("a catch behind a result", x.ask(2, 1), 5);
        x.call(3, 3, 0);
        x.run(40);
        check.due("no step behind the call", x.ask(3, 1), 42);
    }

    private static void aCallThatIsTheLastStep(Check check) {
        GrainHost x = new GrainHost();
        for (int i = 0; i < 7; i++) {
            x.step(0, 0, Op.ADD, 1, 0);
        }
        x.step(0, 0, Op.CALL, 8, 0);
        x.step(1, 0, Op.FAIL, 42, 0);
        x.call(0, 0, 0);
        x.run(40);
        check.due("the eighth step", x.ask(0, 1), 42);
        x.method(0, 0, false, false);
        Op.steps(x, 0, 0, Op.CALL, 8, 0, Op.CATCH, 0, 0);
        x.method(0, 0, false, false);
        Op.steps(x, 0, 0, Op.CALL, 8, 0);
        x.call(0, 0, 0);
        x.run(40);
        check.due("a catch that is there no more", x.ask(1, 1), 42);
    }

    /** The second call ends while a request awaits in the row of the one that called before. */
    private static void rowsAreUsedAgain(Check check) {
        GrainHost x = new GrainHost();
        Op.steps(x, 0, 0, Op.CALL, 8, 0);
        Op.steps(x, 0, 1, Op.CALL, 16, 0);
        Op.steps(x, 2, 0, Op.YIELD, 0, 0);
        x.call(0, 0, 0);
        x.run(40);
        x.call(0, 1, 0);
        x.call(8, 0, 0);
        x.run(2);
        check.due("done", x.ask(2, 0), 1);
        check.due("the other one awaits still", x.request(0, 1), 2);
        x.run(40);
        check.due("and comes to its end", x.ask(1, 0), 1);
        GrainHost y = new GrainHost();
        y.step(0, 0, Op.TELL, 8, 0);
        y.call(9, 0, 0);
        y.run(40);
        y.forget();
        y.call(0, 0, 0);
        y.call(1, 1, 0);
        y.run(40);
        check.due("no request tells another one's call", y.ask(1, 1), 0);
        check.due("all over", y.count(2), 0);
    }

    private static void failsThroughCallers(Check check) {
        GrainHost x = new GrainHost();
        Op.steps(x, 0, 0, Op.CALL, 8, 0, Op.CATCH, 0, 0, Op.KEEP, 0, 0);
        Op.steps(x, 1, 0, Op.CALL, 16, 0, Op.ADD, 1, 0);
        Op.steps(x, 2, 0, Op.CALL, 24, 0, Op.ADD, 1, 0);
        Op.steps(x, 3, 0, Op.FAIL, 7, 0);
        x.call(0, 0, 0);
        x.run(8);
        check.due("all but the first are over", x.count(2), 1);
        check.due("that caught it", x.request(0, 5), -7);
        x.run(1);
        check.due("result", x.ask(0, 1), -7);
    }

    private static void brokenComing(Check check) {
        GrainHost x = new GrainHost();
        x.kind(1, false, true);
        Op.steps(x, 0, 0, Op.CALL, 8, 0, Op.CATCH, 0, 0, Op.KEEP, 0, 0);
        x.call(0, 0, 0);
        x.call(8, 0, 0);
        x.call(1, 0, 0);
        x.fails(1);
        x.run(1);
        check.due("one not kept reads nothing", x.count(8), 1);
        x.run(1);
        check.due("the reading fails", x.count(8), 0);
        check.due("absent", x.grain(8, 0), 0);
        check.due("what waits elsewhere goes on", x.ask(2, 0), 0);
        check.due("as it did", x.grain(1, 3), 1);
        check.due("no more waits there", x.grain(8, 3), 0);
        check.due("the outside call is told", x.ask(1, 1), 101);
        check.due("it did not come", x.count(5), 1);
        x.run(40);
        check.due("others come later", x.ask(0, 1), 0);

        GrainHost y = new GrainHost();
        y.kind(1, false, true);
        Op.steps(y, 0, 0, Op.CALL, 8, 0, Op.CATCH, 0, 0, Op.KEEP, 0, 0);
        y.call(0, 0, 0);
        y.call(1, 0, 0);
        y.run(4);
        y.fails(1);
        y.run(1);
        check.due("first caller is ready first", y.line(0), 0);
        check.due("second behind it", y.line(1), 1);
        y.run(2);
        check.due("both caught it", y.ask(0, 1), -101);
        check.due("both", y.ask(1, 1), -101);
    }

    private static void crowd(Check check) {
        GrainHost x = new GrainHost();
        for (int i = 0; i < 8; i++) {
            x.step(0, 0, Op.TELL, 0, 0);
        }
        Op.steps(x, 1, 0, Op.SET, 5, 0, Op.CALL, 9, 0, Op.CATCH, 0, 0, Op.KEEP, 0, 0);
        Op.steps(x, 1, 1, Op.SET, 5, 0, Op.CALL, 9, 0, Op.KEEP, 0, 0);
        Op.steps(x, 1, 2, Op.SET, 5, 0, Op.TELL, 9, 0, Op.CATCH, 0, 0);
        check.due("a call that is caught", crowded(x, 0, check), 1);
        check.due("less 102", x.ask(2, 1), -97);
        check.due("a call that is not", crowded(x, 1, check), 2);
        check.due("102", x.ask(2, 1), 102);
        check.due("telling is not caught", crowded(x, 2, check), 2);
        check.due("102 too", x.ask(2, 1), 102);
        check.due("nothing was made", x.grain(9, 0), 0);
    }

    /** How a method of grain 8 ends whose turn comes while 30 requests are not over. */
    private static long crowded(GrainHost x, int m, Check check) {
        x.restart();
        x.forget();
        x.call(8, 3, 0);
        x.run(2);
        x.call(0, 0, 0);
        x.run(5);
        x.call(8, m, 0);
        x.run(1);
        x.call(24, 0, 0);
        check.due("30 are not over", x.count(2), 30);
        x.run(1);
        return x.ask(2, 0);
    }

    private static void crowdThatIsTold(Check check) {
        GrainHost x = new GrainHost();
        for (int i = 0; i < 8; i++) {
            x.step(0, 0, Op.TELL, 0, 0);
        }
        x.call(0, 0, 0);
        x.run(6);
        check.due("one is made, the other is too many, and the maker is over", x.count(2), 29);
        check.due("made", x.count(1), 34);
    }

    private static void endsInOrder(Check check) {
        GrainHost x = new GrainHost();
        Op.steps(x, 0, 0, Op.CALL, 8, 0);
        Op.steps(x, 1, 0, Op.CALL, 16, 0);
        Op.steps(x, 2, 0, Op.FAIL, 7, 0);
        x.call(0, 0, 0);
        x.run(5);
        x.call(16, 1, 0);
        x.call(8, 1, 0);
        x.call(0, 1, 0);
        x.run(1);
        check.due("the first caller's grain is looked at first", x.line(0), 5);
        check.due("then the one it called", x.line(1), 4);
        check.due("then the one that failed", x.line(2), 3);
    }

    private static void callerBeforeTheGrain(Check check) {
        GrainHost x = new GrainHost();
        Op.steps(x, 0, 0, Op.CALL, 8, 0);
        x.call(0, 0, 0);
        x.run(3);
        x.call(8, 1, 0);
        x.run(1);
        check.due("the caller is ready first", x.line(0), 0);
        check.due("then what waits at the grain", x.line(1), 2);
    }

    private static void leavingThroughAFailure(Check check) {
        GrainHost x = new GrainHost();
        x.kind(0, false, true);
        Op.steps(x, 0, 0, Op.SET, 9, 0, Op.LEAVE, 0, 0, Op.CALL, 0, 1);
        Op.steps(x, 0, 1, Op.FAIL, 3, 0);
        x.call(0, 0, 0);
        x.run(2);
        check.due("leaving", x.grain(0, 0), 3);
        x.run(1);
        check.due("gone", x.grain(0, 0), 0);
        check.due("stored once", x.grain(0, 7), 1);
        check.due("with its state", x.grain(0, 6), 9);
        check.due("failed", x.ask(0, 1), 3);
    }
}
