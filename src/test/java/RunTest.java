/** Promise 9: how many turns are done, and whose. What comes of turns stands in the tests behind. */
public final class RunTest {
    public static void main(String[] args) {
        Check check = new Check();
        answers(check);
        fortyAtOnce(check);
        oneByOneInLine(check);
        comingGrains(check);
        check.finish();
    }

    private static void answers(Check check) {
        GrainHost x = new GrainHost();
        x.call(0, 0, 0);
        int[] wrong = {0, -1, 41, Integer.MIN_VALUE, Integer.MAX_VALUE};
        for (int n : wrong) {
            check.refused(x, "run(" + n + ")", () -> x.run(n), -1);
        }
        check.due("run(1)", x.run(1), 1);
        check.due("run(40)", x.run(40), 1);
        check.due("run(40) then", x.run(40), 0);
        check.due("turns", x.count(3), 2);
    }

    private static void fortyAtOnce(Check check) {
        GrainHost x = new GrainHost();
        Op.steps(x, 0, 0, Op.ADD, 1, 0, Op.TELL, 0, 0);
        x.call(0, 0, 0);
        check.due("run(40)", x.run(40), 40);
        check.due("the state of 39 turns", x.grain(0, 1), 39);
        check.due("run(39)", x.run(39), 39);
        check.due("turns", x.count(3), 79);
    }

    private static void oneByOneInLine(Check check) {
        GrainHost x = new GrainHost();
        Op.steps(x, 0, 0, Op.ADD, 1, 0, Op.YIELD, 0, 0, Op.ADD, 10, 0);
        x.call(0, 0, 0);
        x.call(1, 0, 0);
        check.due("first in line", x.line(0), -2);
        check.due("second in line", x.line(1), -3);
        x.run(2);
        check.due("then the first request", x.line(0), 0);
        x.run(1);
        check.due("it goes behind the other one", x.line(1), 0);
        check.due("its state is between", x.grain(0, 1), 1);
        check.due("and it goes on behind its step", x.request(0, 6), 2);
        x.run(2);
        check.due("it is done first", x.ask(0, 1), 11);
        check.due("the other one is not", x.ask(1, 0), 0);
        x.run(1);
        check.due("then it is", x.ask(1, 1), 11);
    }

    private static void comingGrains(Check check) {
        GrainHost x = new GrainHost();
        Op.steps(x, 0, 0, Op.ADD, 3, 0, Op.TIMER, 5, 0, Op.LEAVE, 0, 0);
        x.call(0, 0, 0);
        x.call(0, 0, 0);
        check.due("a coming grain is in line once", x.count(6), 1);
        x.run(1);
        check.due("one is ready", x.request(0, 1), 1);
        check.due("the other waits", x.request(1, 1), 0);
        x.run(1);
        check.due("leaving while something waits", x.grain(0, 0), 3);
        check.due("that is ready then", x.request(0, 1), 1);
        x.run(1);
        check.due("the state of both", x.ask(1, 1), 6);
        check.due("gone", x.grain(0, 0), 0);
        check.due("without timer", x.grain(0, 4), 0);
        x.call(0, 1, 0);
        x.run(1);
        check.due("here again, not leaving", x.grain(0, 0), 2);
        check.due("with a new state", x.grain(0, 1), 0);
        x.run(1);
        check.due("and it stays", x.grain(0, 0), 2);
    }
}
