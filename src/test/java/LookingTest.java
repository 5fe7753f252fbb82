/** Promise 9: which requests are let in when a grain is looked at. */
public final class LookingTest {
    public static void main(String[] args) {
        Check check = new Check();
        oneAtATime(check);
        awaitingIsBegun(check);
        whatComesBack(check);
        comesBackOverOthers(check);
        tellDoesNotComeBack(check);
        readingAndWriting(check);
        anOpenOneKeepsOthersOut(check);
        chainsGrow(check);
        check.finish();
    }

    private static void oneAtATime(Check check) {
        GrainHost x = new GrainHost();
        x.step(0, 0, Op.YIELD, 0, 0);
        x.call(0, 0, 0);
        x.call(0, 0, 0);
        x.call(0, 0, 0);
        x.run(1);
        check.due("one begun", x.grain(0, 2), 1);
        check.due("two wait", x.grain(0, 3), 2);
        x.run(2);
        check.due("one begun behind it", x.grain(0, 2), 1);
        check.due("that is the next one", x.line(0), 1);
    }

    private static void awaitingIsBegun(Check check) {
        GrainHost x = new GrainHost();
        x.step(0, 0, Op.CALL, 8, 0);
        x.call(0, 0, 0);
        x.run(2);
        x.call(0, 1, 0);
        check.due("it waits for one that awaits", x.request(2, 1), 0);
        x.run(3);
        check.due("the first one is over", x.ask(0, 0), 1);
        check.due("then it is ready", x.request(0, 1), 1);
    }

    private static void whatComesBack(Check check) {
        GrainHost x = new GrainHost();
        x.step(0, 0, Op.CALL, 8, 0);
        x.step(1, 0, Op.CALL, 16, 0);
        x.step(2, 0, Op.CALL, 0, 1);
        x.step(0, 1, Op.ADD, 6, 0);
        x.call(0, 0, 0);
        x.run(6);
        check.due("let in at the first grain", x.request(3, 1), 1);
        check.due("two begun there", x.grain(0, 2), 2);
        check.due("chain of the last", x.request(3, 9), 3);
        x.run(40);
        check.due("all over", x.count(2), 0);
        check.due("result", x.ask(0, 1), 6);
        GrainHost y = new GrainHost();
        y.step(0, 0, Op.CALL, 0, 1);
        y.step(0, 1, Op.ADD, 6, 0);
        y.call(0, 0, 0);
        y.run(40);
        check.due("a call of one's own grain", y.ask(0, 1), 6);
    }

    private static void comesBackOverOthers(Check check) {
        GrainHost x = new GrainHost();
        x.step(0, 0, Op.CALL, 8, 0);
        x.step(1, 0, Op.CALL, 0, 1);
        x.call(0, 0, 0);
        x.call(0, 1, 0);
        x.run(4);
        check.due("one from outside waits still", x.request(1, 1), 0);
        check.due("the later one that comes back is ready", x.request(3, 1), 1);
    }

    private static void tellDoesNotComeBack(Check check) {
        GrainHost x = new GrainHost();
        x.step(0, 0, Op.CALL, 8, 0);
        Op.steps(x, 1, 0, Op.TELL, 0, 1, Op.YIELD, 0, 0);
        x.call(0, 0, 0);
        x.run(4);
        check.due("told, it waits", x.request(2, 1), 0);
        check.due("its chain is its grain", x.request(2, 9), 1);
        GrainHost y = new GrainHost();
        Op.steps(y, 0, 0, Op.TELL, 0, 1, Op.YIELD, 0, 0);
        y.call(0, 0, 0);
        y.run(2);
        check.due("told by its own grain, it waits", y.request(1, 1), 0);
    }

    private static void readingAndWriting(Check check) {
        GrainHost x = new GrainHost();
        x.method(0, 0, false, true);
        x.step(0, 0, Op.CALL, 8, 0);
        x.call(0, 1, 0);
        x.call(0, 0, 0);
        x.call(0, 1, 0);
        x.call(0, 0, 0);
        x.run(1);
        check.due("the writing one alone", x.grain(0, 2), 1);
        x.run(1);
        check.due("both reading ones behind it", x.grain(0, 2), 2);
        check.due("first", x.line(0), 1);
        check.due("second, past a writing one", x.line(1), 3);
        check.due("that waits", x.request(1, 1), 0);
    }

    private static void anOpenOneKeepsOthersOut(Check check) {
        GrainHost x = new GrainHost();
        x.method(0, 0, true, false);
        x.method(0, 1, false, true);
        x.step(0, 0, Op.YIELD, 0, 0);
        x.call(0, 0, 0);
        x.call(0, 1, 0);
        x.call(0, 0, 0);
        x.run(1);
        check.due("one not open waits for an open one", x.request(1, 1), 0);
        check.due("another open one does not", x.request(2, 1), 1);
    }

    private static void chainsGrow(Check check) {
        GrainHost x = new GrainHost();
        x.step(0, 0, Op.CALL, 0, 1);
        x.step(0, 1, Op.CALL, 31, 0);
        x.step(3, 0, Op.YIELD, 0, 0);
        x.call(0, 0, 0);
        x.run(5);
        check.due("own grain", x.request(0, 9), 1);
        check.due("the same grain again", x.request(1, 9), 1);
        check.due("and another", x.request(2, 9), 2);
    }
}
