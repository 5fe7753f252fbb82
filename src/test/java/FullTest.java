/** What there may be at most: 8 steps, 30 requests that are not over, 12 outside calls, 40 turns, 512 calls. */
public final class FullTest {
    private static final int CROWD = 102, NOT_OVER = 2, IN_LINE = 6;

    private final Check check = new Check();

    public static void main(String[] args) {
        FullTest test = new FullTest();
        test.eightSteps();
        test.theLastStepYields();
        test.theThirtiethCallOfOutside();
        test.theTwelfthOutsideCall();
        test.theThirtiethByCall();
        test.theThirtyFirstByCall();
        test.crowdIsCaughtBehindTheCall();
        test.theThirtiethByTell();
        test.theThirtyFirstByTell();
        test.crowdOfATellIsNotCaught();
        test.whatWasToldStays();
        test.timersInACrowd();
        test.remindersInACrowd();
        test.roomIsBackAtOnce();
        test.thirtyCallersFail();
        test.thirtyCallersGoOn();
        test.thirtyWaitAndBreak();
        test.thirtyInLine();
        test.thirtyAreLate();
        test.manyGrainsInAChain();
        test.allGrainsAreHere();
        test.fortyTurns();
        test.fiveHundredAndTwelveCalls();
        test.check.finish();
    }

    /** "METHODS 0..3, each with up to 8 STEPS": the eighth is done too, in each method. */
    private void eightSteps() {
        for (int way = 0; way < 16; way++) {
            GrainHost x = new GrainHost();
            int k = way / 4;
            int m = way % 4;
            for (int s = 0; s < 8; s++) {
                x.step(k, m, Op.ADD, 1 << s, 0);
            }
            x.call(8 * k + 7, m, 0);
            x.run(2);
            check.due("all steps", x.ask(0, 1), 255);
        }
    }

    /** "STEPS .., numbered from 0": behind the eighth, 8 comes next, and nothing stands there. */
    private void theLastStepYields() {
        GrainHost x = new GrainHost();
        for (int s = 0; s < 8; s++) {
            x.step(0, 0, Op.YIELD, 0, 0);
        }
        x.call(0, 0, 0);
        x.run(1);
        for (int s = 0; s <= 8; s++) {
            check.due("step that comes next", x.request(0, 6), s);
            check.due("ready", x.request(0, 1), 1);
            x.run(1);
        }
        check.due("over", x.ask(0, 0), 1);
        check.due("turns", x.count(3), 10);
    }

    /** "FULL if .. 30 REQUESTS are not OVER." */
    private void theThirtiethCallOfOutside() {
        GrainHost x = new GrainHost();
        Places.waiting(x, 0, 0, 29);
        check.due("29", x.count(NOT_OVER), 29);
        check.due("the thirtieth", x.call(31, 0, 0), 0);
        check.due("30", x.count(NOT_OVER), 30);
        check.due("the thirty-first", x.call(31, 0, 0), -2);
        check.due("30 still", x.count(NOT_OVER), 30);
        check.due("made", x.count(1), 30);
        check.due("calls", x.count(7), 1);
    }

    /** "OUTSIDE calls 0..11 are numbered as they are made"; "FULL if there are 12 OUTSIDE calls" */
    private void theTwelfthOutsideCall() {
        GrainHost x = new GrainHost();
        for (int c = 0; c < 11; c++) {
            check.due("number", x.call(31 - c, 1, 0), c);
        }
        check.due("eleven", x.count(7), 11);
        check.due("the twelfth", x.call(0, 1, 0), 11);
        check.due("the thirteenth", x.call(0, 1, 0), -2);
        check.due("twelve", x.count(7), 12);
        x.restart();
        check.due("twelve that ended are twelve", x.call(0, 1, 0), -2);
        check.due("all are forgotten", x.forget(), 12);
        check.due("then from 0 on", x.call(0, 1, 0), 0);
        check.due("its request's number goes on", x.ask(0, 2), 12);
    }

    /**
     * A host on which so many requests are not over and the first of the line is that of outside
     * call 0, for method 0 of grain 0. The others stand at grain 24, whose first one yields.
     */
    private GrainHost crowd(int notOver, int... steps) {
        GrainHost x = new GrainHost();
        Op.steps(x, 0, 0, steps);
        Op.steps(x, 3, 0, Op.YIELD, 0, 0);
        Places.waiting(x, 24, 0, notOver - 1);
        x.call(0, 0, 0);
        x.run(3);
        check.due("not over", x.count(NOT_OVER), notOver);
        check.due("first of the line", x.line(0), notOver - 1);
        return x;
    }

    /** "CALL and TELL FAIL with CROWD if 30 REQUESTS are not OVER": not if 29 are. */
    private void theThirtiethByCall() {
        GrainHost x = crowd(29, Op.CALL, 8, 0, Op.CATCH, 0, 0, Op.KEEP, 0, 0);
        x.run(1);
        check.due("30", x.count(NOT_OVER), 30);
        check.due("it awaits", x.request(28, 1), 2);
        check.due("the thirtieth", x.request(28, 7), 29);
        check.due("that is there", x.request(29, 2), 8);
        check.due("its own int", x.request(28, 5), 0);
        check.due("its grain comes", x.grain(8, 0), 1);
    }

    /** The same, with 30. */
    private void theThirtyFirstByCall() {
        GrainHost x = crowd(30, Op.ADD, 3, 0, Op.CALL, 8, 0, Op.ADD, 4, 0);
        x.run(1);
        check.due("failed", x.ask(0, 0), 2);
        check.due("with", x.ask(0, 1), CROWD);
        check.due("29 are left", x.count(NOT_OVER), 29);
        check.due("none was made", x.count(1), 30);
        check.due("its grain does not come", x.grain(8, 0), 0);
        check.due("no step behind it was done", x.grain(0, 1), 3);
    }

    /** "That is so for CROWD": it goes on behind the catch, in the same turn. */
    private void crowdIsCaughtBehindTheCall() {
        GrainHost x = crowd(30, Op.CALL, 8, 0, Op.CATCH, 0, 0, Op.KEEP, 0, 0, Op.YIELD, 0, 0);
        x.run(1);
        check.due("ready", x.request(29, 1), 1);
        check.due("its own int", x.request(29, 5), -CROWD);
        check.due("the step that comes next", x.request(29, 6), 4);
        check.due("it awaits none", x.request(29, 7), -1);
        check.due("the state", x.grain(0, 1), -CROWD);
        GrainHost y = crowd(30, Op.CALL, 8, 0, Op.CATCH, 0, 0);
        y.run(1);
        check.due("a catch that is the last step: a result", y.ask(0, 0), 1);
        check.due("which is the state", y.ask(0, 1), 0);
        GrainHost z = crowd(30, Op.CALL, 8, 0, Op.CATCH, 0, 0, Op.CALL, 8, 0, Op.CATCH, 0, 0, Op.KEEP, 0, 0);
        z.run(1);
        check.due("twice in one turn", z.ask(0, 1), -CROWD);
    }

    private void theThirtiethByTell() {
        GrainHost x = crowd(29, Op.TELL, 8, 0, Op.ADD, 4, 0, Op.YIELD, 0, 0);
        x.run(1);
        check.due("30", x.count(NOT_OVER), 30);
        check.due("it goes on", x.grain(0, 1), 4);
        check.due("the thirtieth", x.request(29, 2), 8);
    }

    private void theThirtyFirstByTell() {
        GrainHost x = crowd(30, Op.ADD, 3, 0, Op.TELL, 8, 0, Op.ADD, 4, 0);
        x.run(1);
        check.due("failed", x.ask(0, 0), 2);
        check.due("with", x.ask(0, 1), CROWD);
        check.due("29 are left", x.count(NOT_OVER), 29);
        check.due("none was made", x.count(1), 30);
        check.due("its grain does not come", x.grain(8, 0), 0);
        check.due("no step behind it was done", x.grain(0, 1), 3);
    }

    /** "STEPS other than CALL are not caught" */
    private void crowdOfATellIsNotCaught() {
        GrainHost x = crowd(30, Op.TELL, 8, 0, Op.CATCH, 0, 0, Op.ADD, 4, 0);
        x.run(1);
        check.due("failed", x.ask(0, 0), 2);
        check.due("with", x.ask(0, 1), CROWD);
        check.due("nothing behind the catch was done", x.grain(0, 1), 0);
    }

    /** The first of two makes 30; what it made is not taken back when the second fails. */
    private void whatWasToldStays() {
        GrainHost x = crowd(29, Op.TELL, 8, 0, Op.TELL, 9, 0);
        x.run(1);
        check.due("failed", x.ask(0, 1), CROWD);
        check.due("the first is there", x.grain(8, 3), 1);
        check.due("the second is not", x.grain(9, 0), 0);
        check.due("29 are left", x.count(NOT_OVER), 29);
        GrainHost y = crowd(29, Op.TELL, 8, 0, Op.CALL, 9, 0, Op.CATCH, 0, 0, Op.KEEP, 0, 0);
        y.run(1);
        check.due("a call behind a tell", y.ask(0, 1), -CROWD);
    }

    /** Two grains of a kind with a timer or a reminder at 1, and so many requests that wait at grain 31. */
    private GrainHost ringing(int op, int notOver) {
        GrainHost x = new GrainHost();
        x.step(0, 0, op, 4, 0);
        x.call(6, 0, 0);
        x.call(2, 0, 0);
        x.run(4);
        x.forget();
        Places.waiting(x, 31, 0, notOver);
        int ticks = (notOver + 11) / 12;
        for (int i = ticks; i < 3; i++) {
            x.tick(1);
        }
        check.due("not over", x.count(NOT_OVER), notOver);
        check.due("at 1", x.grain(2, op == Op.TIMER ? 4 : 8), 1);
        check.due("at 1", x.grain(6, op == Op.TIMER ? 4 : 8), 1);
        return x;
    }

    /** "a TIMER that is at 1 goes, and makes a REQUEST ..; none if 30 are not OVER" */
    private void timersInACrowd() {
        int[] made = {2, 1, 0};
        for (int i = 0; i < 3; i++) {
            GrainHost x = ringing(Op.TIMER, 28 + i);
            x.tick(1);
            check.due("made with " + (28 + i), x.count(1) - 2, 28 + i + made[i]);
            check.due("at the first grain", x.grain(2, 2), made[i] > 0 ? 1 : 0);
            check.due("at the second grain", x.grain(6, 2), made[i] > 1 ? 1 : 0);
            check.due("the first timer goes", x.grain(2, 4), 0);
            check.due("the second timer goes", x.grain(6, 4), 0);
            check.due("idle", x.grain(6, 5) > 0, made[i] < 2);
            x.restart();
            x.tick(20);
            check.due("none comes later", x.count(NOT_OVER), 0);
        }
    }

    /** "REMINDERS likewise for METHOD 2, but begin anew with their number" */
    private void remindersInACrowd() {
        int[] made = {2, 1, 0};
        for (int i = 0; i < 3; i++) {
            GrainHost x = ringing(Op.REMIND, 28 + i);
            x.tick(1);
            check.due("made with " + (28 + i), x.count(1) - 2, 28 + i + made[i]);
            check.due("at the first grain", x.grain(2, 2), made[i] > 0 ? 1 : 0);
            check.due("at the second grain", x.grain(6, 2), made[i] > 1 ? 1 : 0);
            check.due("the first begins anew", x.grain(2, 8), 4);
            check.due("the second begins anew", x.grain(6, 8), 4);
            x.restart();
            x.tick(3);
            check.due("not before its number", x.count(NOT_OVER), 0);
            x.tick(1);
            check.due("then both come", x.count(NOT_OVER), 2);
        }
    }

    /** One that is over makes room for the next one of the line, in the same run. */
    private void roomIsBackAtOnce() {
        GrainHost x = crowd(30, Op.FAIL, 5, 0);
        x.run(1);
        check.due("29 are left", x.count(NOT_OVER), 29);
        check.due("the thirtieth again", x.call(1, 0, 0), 1);
        check.due("and no more", x.call(1, 0, 0), -2);
    }

    /** Methods of two grains that call one another, for ever: each is let in, its grain being in the chain. */
    private static GrainHost endless(int... behindTheCall) {
        GrainHost x = new GrainHost();
        x.step(0, 0, Op.CALL, 8, 0);
        x.step(1, 0, Op.CALL, 0, 0);
        Op.steps(x, 0, 0, behindTheCall);
        Op.steps(x, 1, 0, behindTheCall);
        x.call(0, 0, 0);
        return x;
    }

    /** "or OVER by that, with all that comes of it": the thirtieth fails, and 29 callers by that. */
    private void thirtyCallersFail() {
        GrainHost x = endless(Op.ADD, 1, 0);
        check.due("two grains come, and 29 call", x.run(31), 31);
        check.due("30", x.count(NOT_OVER), 30);
        check.due("begun at the first", x.grain(0, 2), 15);
        check.due("begun at the other", x.grain(8, 2), 15);
        check.due("two in the chain", x.request(29, 9), 2);
        check.due("pending", x.ask(0, 0), 0);
        check.due("one more turn", x.run(1), 1);
        check.due("none is left", x.count(NOT_OVER), 0);
        check.due("failed", x.ask(0, 0), 2);
        check.due("with", x.ask(0, 1), CROWD);
        check.due("the line is empty", x.count(IN_LINE), 0);
        check.due("no step behind a call was done", x.grain(0, 1), 0);
    }

    /** The thirtieth catches it, and each goes on with the result of the one that it called. */
    private void thirtyCallersGoOn() {
        GrainHost x = endless(Op.CATCH, 0, 0, Op.ADD, 1, 0);
        x.run(31);
        check.due("30", x.count(NOT_OVER), 30);
        for (int left = 29; left >= 1; left--) {
            x.run(1);
            check.due("left", x.count(NOT_OVER), left);
            check.due("the last one is ready", x.request(left - 1, 1), 1);
        }
        x.run(1);
        check.due("a result", x.ask(0, 0), 1);
        check.due("the state of 15", x.ask(0, 1), 15);
    }

    /** "all that WAIT there are OVER, in order, FAILED with BROKEN" */
    private void thirtyWaitAndBreak() {
        GrainHost x = new GrainHost();
        x.kind(3, false, true);
        Places.waiting(x, 30, 0, 18);
        for (int c = 0; c < 12; c++) {
            x.call(30, 0, 0);
        }
        check.due("30 wait", x.grain(30, 3), 30);
        check.due("one in line", x.count(IN_LINE), 1);
        x.fails(1);
        x.run(1);
        check.due("none is left", x.count(NOT_OVER), 0);
        for (int c = 0; c < 12; c++) {
            check.due("each failed", x.ask(c, 0), 2);
            check.due("each with", x.ask(c, 1), 101);
        }
        check.due("one failure of the store", x.count(8), 0);
        check.due("absent", x.grain(30, 0), 0);
    }

    /** The line holds each request that is ready: 30 at most, and the thirtieth can be asked for. */
    private void thirtyInLine() {
        GrainHost x = new GrainHost();
        x.kind(3, true, false);
        x.step(3, 0, Op.YIELD, 0, 0);
        Places.waiting(x, 30, 0, 30);
        x.run(1);
        for (int first = 0; first < 30; first++) {
            check.due("30 in line", x.count(IN_LINE), 30);
            for (int k = 0; k < 30; k++) {
                check.due("line(" + k + ")", x.line(k), (first + k) % 30);
            }
            check.due("no more", x.line(30), -1);
            x.run(1);
        }
        x.run(30);
        check.due("all over", x.count(NOT_OVER), 0);
    }

    /** "by numbers: each REQUEST that AWAITS": 29 at once, each of which is late. */
    private void thirtyAreLate() {
        GrainHost x = endless(Op.CATCH, 0, 0, Op.YIELD, 0, 0);
        x.run(30);
        check.due("29", x.count(NOT_OVER), 29);
        x.limits(1, 0);
        x.tick(1);
        check.due("the last one is first in line", x.line(0), 28);
        for (int k = 0; k < 28; k++) {
            check.due("then by numbers", x.line(k + 1), k);
            check.due("with", x.request(k, 5), -103);
        }
        GrainHost y = endless(Op.ADD, 1, 0);
        y.run(30);
        y.limits(1, 0);
        y.tick(1);
        check.due("all but the last one are over", y.count(NOT_OVER), 1);
        check.due("that goes on", y.request(0, 0), 28);
        check.due("ready as it was", y.request(0, 1), 1);
        check.due("its chain stays", y.request(0, 9), 2);
    }

    /** "how many different grains are in its CHAIN": each method calls another one of another grain. */
    private void manyGrainsInAChain() {
        GrainHost x = new GrainHost();
        for (int way = 0; way < 16; way++) {
            int next = way + 1;
            int k = next % 4;
            x.step(way % 4, way / 4, Op.CALL, 8 * k + next / 4, next / 4 % 4);
        }
        x.call(0, 0, 0);
        x.run(34);
        for (int k = 0; k <= 16; k++) {
            check.due("grains in the chain of " + k, x.request(k, 9), k + 1);
        }
        x.run(2);
        check.due("one that is there already", x.request(18, 9), 17);
    }

    /** GRAINS are 0..31: all of them are here, and come one by one. */
    private void allGrainsAreHere() {
        GrainHost x = new GrainHost();
        for (int g = 0; g < 32; g++) {
            x.call(g, 0, 0);
            x.run(2);
            x.forget();
            check.due("here", x.count(4), g + 1);
        }
        check.due("came", x.count(5), 32);
        x.restart();
        check.due("none", x.count(4), 0);
    }

    /** "Up to n (1..40) TURNS: how many were done." */
    private void fortyTurns() {
        for (int n = 1; n <= 40; n++) {
            GrainHost x = new GrainHost();
            Op.steps(x, 0, 0, Op.ADD, 1, 0, Op.TELL, 0, 0);
            x.call(0, 0, 0);
            check.due("as many as there may be", x.run(n), n);
            check.due("turns", x.count(3), n);
            check.due("and no more", x.grain(0, 1), n - 1);
        }
        GrainHost y = new GrainHost();
        y.call(0, 0, 0);
        y.call(1, 0, 0);
        check.due("as many as there are", y.run(5), 4);
        check.due("turns", y.count(3), 4);
    }

    /** "An object is used for at most 512 calls": the last one answers as the first did. */
    private void fiveHundredAndTwelveCalls() {
        GrainHost x = new GrainHost();
        x.step(0, 0, Op.ADD, 1, 0);
        x.step(0, 0, Op.TELL, 1, 0);
        x.call(0, 0, 0);
        x.run(2);
        for (int i = 5; i <= 511; i++) {
            check.due("run", x.run(40), 40);
        }
        check.due("turns", x.count(3), 2 + 507 * 40);
    }
}
