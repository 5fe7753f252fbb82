/** The edges of what stands: which requests are let in, their numbers, and what a restart leaves. */
public final class StandingTest {
    private static final int NOT_OVER = 2;

    private final Check check = new Check();

    public static void main(String[] args) {
        StandingTest test = new StandingTest();
        test.theFirstIsLetIn();
        test.allThatMayAreLetInAtOnce();
        test.readingOnesTillAWritingOne();
        test.aWritingOneKeepsReadingOnesOut();
        test.oneThatIsLeftKeepsOthersOut();
        test.theOwnGrainIsInTheChain();
        test.onlyTheOwnChainCounts();
        test.oneThatComesBackToAComingGrain();
        test.numbersHaveGaps();
        test.whatIsAskedOfOne();
        test.restartOfEverySort();
        test.restartLeavesWhatEnded();
        test.restartLeavesFlagsAndSteps();
        test.restartAtTheEdgeOfAReminder();
        test.restartWhileOneAwaits();
        test.forgetLeavesWhatStands();
        test.whatWasToldEndsNoCall();
        test.check.finish();
    }

    /** Twelve calls of a method of grain 0, which is coming. */
    private static GrainHost twelve(boolean reentrant, boolean open, boolean reading) {
        GrainHost x = new GrainHost();
        x.kind(0, reentrant, false);
        x.method(0, 0, open, reading);
        x.step(0, 0, Op.YIELD, 0, 0);
        for (int c = 0; c < 12; c++) {
            x.call(0, 0, 0);
        }
        return x;
    }

    /** "if nothing is BEGUN there": one alone, and the next one when that is over. */
    private void theFirstIsLetIn() {
        GrainHost x = twelve(false, false, false);
        x.run(1);
        for (int over = 0; over < 12; over++) {
            check.due("one begun", x.grain(0, 2), 1);
            check.due("the others wait", x.grain(0, 3), 11 - over);
            check.due("in order", x.line(0), over);
            check.due("alone", x.count(6), 1);
            x.run(2);
        }
        check.due("none", x.count(NOT_OVER), 0);
    }

    /** "or its KIND is REENTRANT, or its METHOD is OPEN, or .. READING": all of them, in order. */
    private void allThatMayAreLetInAtOnce() {
        for (int way = 0; way < 3; way++) {
            GrainHost x = twelve(way == 0, way == 1, way == 2);
            check.due("all wait while it comes", x.grain(0, 3), 12);
            x.run(1);
            check.due("all begun", x.grain(0, 2), 12);
            check.due("none waits", x.grain(0, 3), 0);
            for (int k = 0; k < 12; k++) {
                check.due("in order", x.line(k), k);
            }
        }
    }

    /** "its METHOD and those of all that are BEGUN there are READING": one that is not, is not let in. */
    private void readingOnesTillAWritingOne() {
        GrainHost x = new GrainHost();
        x.method(0, 0, false, true);
        x.step(0, 0, Op.YIELD, 0, 0);
        x.call(0, 0, 0);
        x.call(0, 1, 0);
        x.run(1);
        x.call(0, 0, 0);
        check.due("two reading ones begun", x.grain(0, 2), 2);
        check.due("the writing one waits", x.request(1, 1), 0);
        x.run(3);
        check.due("one reading one is over", x.count(NOT_OVER), 2);
        check.due("the writing one waits still", x.request(0, 1), 0);
        x.run(1);
        check.due("none is left: it is let in", x.request(0, 1), 1);
    }

    private void aWritingOneKeepsReadingOnesOut() {
        GrainHost x = new GrainHost();
        x.method(0, 0, false, true);
        x.method(0, 1, true, false);
        x.step(0, 0, Op.YIELD, 0, 0);
        x.step(0, 1, Op.YIELD, 0, 0);
        x.call(0, 0, 0);
        x.run(1);
        x.call(0, 1, 0);
        x.call(0, 0, 0);
        check.due("an open one beside a reading one", x.request(1, 1), 1);
        check.due("not all that are begun are reading", x.request(2, 1), 0);
    }

    /** Two open ones are begun: one that is not open waits till both are over. */
    private void oneThatIsLeftKeepsOthersOut() {
        GrainHost x = new GrainHost();
        x.method(0, 0, true, false);
        Op.steps(x, 0, 0, Op.TAKE, 0, 0, Op.LET, 0, 0, Op.SKIP, 1, 0, Op.YIELD, 0, 0);
        x.call(0, 0, -5);
        x.call(0, 0, 9);
        x.call(0, 1, 0);
        x.run(2);
        check.due("one open one is over", x.ask(0, 0), 1);
        check.due("the other is begun", x.grain(0, 2), 1);
        check.due("one waits", x.grain(0, 3), 1);
        x.run(1);
        check.due("it waits still", x.grain(0, 3), 1);
        x.run(1);
        check.due("it is let in", x.grain(0, 3), 0);
    }

    /** "the grain is in the CHAIN of the REQUEST that made it by CALL": a call of the own grain. */
    private void theOwnGrainIsInTheChain() {
        GrainHost x = new GrainHost();
        Op.steps(x, 0, 0, Op.ADD, 1, 0, Op.CALL, 0, 0);
        x.call(0, 0, 0);
        x.run(1);
        for (int turn = 1; turn <= 29; turn++) {
            x.run(1);
            check.due("each is let in", x.grain(0, 2), turn + 1);
            check.due("ready", x.request(turn, 1), 1);
            check.due("one grain in its chain", x.request(turn, 9), 1);
        }
        x.run(1);
        check.due("the thirty-first fails, and all by that", x.count(NOT_OVER), 0);
        check.due("the state of all", x.grain(0, 1), 30);
    }

    /** A grain is not let in for being in the chain of another one that is begun there. */
    private void onlyTheOwnChainCounts() {
        GrainHost x = new GrainHost();
        Op.steps(x, 0, 0, Op.CALL, 8, 0);
        Op.steps(x, 1, 0, Op.YIELD, 0, 0, Op.YIELD, 0, 0, Op.YIELD, 0, 0);
        Op.steps(x, 2, 0, Op.CALL, 0, 1);
        x.call(0, 0, 0);
        x.run(3);
        x.call(16, 0, 0);
        x.run(4);
        check.due("a call of another chain waits", x.request(3, 1), 0);
        check.due("two in its chain", x.request(3, 9), 2);
        check.due("the other one awaits it", x.request(2, 7), 3);
    }

    /** The maker is leaving and gone, but its chain holds the grain that is coming again. */
    private void oneThatComesBackToAComingGrain() {
        GrainHost x = new GrainHost();
        Op.steps(x, 0, 0, Op.CALL, 8, 0);
        Op.steps(x, 0, 1, Op.YIELD, 0, 0, Op.YIELD, 0, 0, Op.YIELD, 0, 0);
        Op.steps(x, 1, 0, Op.YIELD, 0, 0, Op.CALL, 0, 1);
        x.limits(1, 1);
        x.call(0, 0, 0);
        x.run(2);
        x.tick(1);
        check.due("the maker is late, and its grain is gone", x.grain(0, 0), 0);
        x.limits(0, 0);
        x.forget();
        x.run(2);
        x.call(0, 1, 0);
        check.due("it comes again", x.grain(0, 0), 1);
        x.run(2);
        check.due("two wait or are begun there", x.grain(0, 2), 2);
        check.due("the one that comes back is let in beside the other one", x.request(2, 1), 1);
    }

    /** "Of the k-th REQUEST (0 the first) of those that are not OVER, by numbers" */
    private void numbersHaveGaps() {
        GrainHost x = new GrainHost();
        x.step(0, 0, Op.YIELD, 0, 0);
        for (int g = 0; g < 12; g++) {
            x.call(g, 0, 0);
        }
        x.run(24);
        int[] due = {0, 1, 2, 3, 4, 5, 6, 7};
        check.due("those that did not yield are over", x.count(NOT_OVER), 8);
        for (int k = 0; k < 8; k++) {
            check.due("number", x.request(k, 0), due[k]);
        }
        x.run(3);
        check.due("the fourth is the first now", x.request(0, 0), 3);
        check.due("the last", x.request(4, 0), 7);
        check.due("no more", x.request(5, 0), -1);
        x.forget();
        x.run(40);
        x.forget();
        x.call(0, 0, 0);
        check.due("numbers are not used again", x.request(0, 0), 12);
    }

    /** "-1 if none", "0 if it does not", of one that waits, is ready, awaits, and does not any more. */
    private void whatIsAskedOfOne() {
        GrainHost x = new GrainHost();
        Op.steps(x, 0, 0, Op.CALL, 8, 0, Op.YIELD, 0, 0);
        x.call(0, 0, 0);
        int[] phases = {0, 1, 2, 2, 1, 1};
        int[] awaited = {-1, -1, 1, 1, -1, -1};
        int[] ticks = {0, 0, 1, 2, 0, 0};
        int[] next = {0, 0, 1, 1, 1, 2};
        for (int i = 0; i < 6; i++) {
            x.tick(1);
            check.due("phase " + i, x.request(0, 1), phases[i]);
            check.due("awaited " + i, x.request(0, 7), awaited[i]);
            check.due("ticks " + i, x.request(0, 8), ticks[i]);
            check.due("next " + i, x.request(0, 6), next[i]);
            check.due("chain " + i, x.request(0, 9), 1);
            x.run(1);
        }
        check.due("over", x.count(NOT_OVER), 0);
    }

    /** "all grains are ABSENT without going, all REQUESTS OVER, the LINE empty .. how many REQUESTS were not OVER" */
    private void restartOfEverySort() {
        GrainHost x = new GrainHost();
        Places.crowdOfCalls(x);
        check.due("restart()", x.restart(), 30);
        check.due("none", x.count(NOT_OVER), 0);
        check.due("no line", x.count(6), 0);
        check.due("none here", x.count(4), 0);
        for (int g = 0; g < 32; g++) {
            for (int what = 0; what < 6; what++) {
                check.due("grain(" + g + ", " + what + ")", x.grain(g, what), 0);
            }
        }
        for (int c = 0; c < 12; c++) {
            check.due("failed", x.ask(c, 0), 2);
            check.due("with", x.ask(c, 1), 104);
            check.due("its request", x.ask(c, 2) > 0, true);
        }
        check.due("no turn", x.run(40), 0);
        check.due("forget()", x.forget(), 12);
    }

    /** "PENDING OUTSIDE calls FAILED with STOPPED": the others keep what they have. */
    private void restartLeavesWhatEnded() {
        GrainHost x = new GrainHost();
        x.step(0, 0, Op.SET, 5, 0);
        x.step(0, 1, Op.FAIL, 6, 0);
        x.call(0, 0, 0);
        x.call(1, 1, 0);
        x.run(40);
        x.limits(1, 0);
        x.call(2, 0, 0);
        x.tick(1);
        x.call(3, 0, 0);
        check.due("restart()", x.restart(), 2);
        long[] codes = {5, 6, 103, 104};
        for (int c = 0; c < 4; c++) {
            check.due("what it is", x.ask(c, 0), c == 0 ? 1 : 2);
            check.due("value", x.ask(c, 1), codes[c]);
            check.due("request", x.ask(c, 2), c);
        }
    }

    /** "the STORE .., LIMIT, AGE, KINDS and the CLOCK stay": the same as if nothing had stood. */
    private void restartLeavesFlagsAndSteps() {
        Twins.alike(check, "what stood before a restart", x -> withoutRequests(x), x -> withRequests(x));
    }

    private static void withoutRequests(GrainHost x) {
        Places.idle(x);
        x.restart();
        x.forget();
        x.call(28, 0, 0);
        x.restart();
        x.forget();
    }

    private static void withRequests(GrainHost x) {
        Places.idle(x);
        x.forget();
        x.call(28, 0, 0);
        x.restart();
        x.forget();
    }

    /** "REMINDERS (with their TICKS)": one that is at 1 comes with the next tick. */
    private void restartAtTheEdgeOfAReminder() {
        GrainHost x = new GrainHost();
        Op.steps(x, 0, 0, Op.REMIND, 3, 0, Op.TIMER, 3, 0);
        x.call(0, 0, 0);
        x.run(2);
        x.tick(2);
        x.restart();
        check.due("at 1", x.grain(0, 8), 1);
        check.due("no timer", x.grain(0, 4), 0);
        x.tick(1);
        check.due("it comes", x.line(0), -2);
        check.due("alone", x.count(NOT_OVER), 1);
        check.due("method", x.request(0, 3), 2);
        x.restart();
        check.due("anew", x.grain(0, 8), 3);
    }

    /** "All OUTSIDE calls are forgotten", and nothing else: what they asked for goes on. */
    private void forgetLeavesWhatStands() {
        GrainHost x = new GrainHost();
        Op.steps(x, 0, 0, Op.YIELD, 0, 0, Op.ADD, 3, 0);
        x.limits(1, 0);
        x.call(0, 0, 0);
        x.run(1);
        x.tick(1);
        check.due("forget()", x.forget(), 1);
        check.due("its request stands", x.count(NOT_OVER), 1);
        check.due("in line", x.line(0), 0);
        x.run(2);
        check.due("and is done", x.grain(0, 1), 3);
        check.due("nothing to ask", x.ask(0, 0), 1L << 40);
    }

    /** What is made behind a restart is new in all that can be asked of it. */
    private void restartWhileOneAwaits() {
        GrainHost x = new GrainHost();
        Op.steps(x, 0, 0, Op.SET, 5, 0, Op.LET, 0, 0, Op.CALL, 8, 1);
        Op.steps(x, 1, 1, Op.CALL, 16, 0);
        x.call(0, 0, 3);
        x.run(4);
        x.tick(2);
        check.due("three stand", x.restart(), 3);
        for (int k = 0; k < 3; k++) {
            x.call(24 + k, 2, 9);
            int[] due = {3 + k, 0, 24 + k, 2, 9, 0, 0, -1, 0, 1};
            for (int what = 0; what < 10; what++) {
                check.due("request(" + k + ", " + what + ")", x.request(k, what), due[what]);
            }
        }
    }

    /** Calls are forgotten and made anew, while what others told comes to its end before them. */
    private void whatWasToldEndsNoCall() {
        GrainHost x = new GrainHost();
        Op.steps(x, 0, 0, Op.TELL, 8, 0, Op.TELL, 9, 0, Op.YIELD, 0, 0, Op.YIELD, 0, 0, Op.YIELD, 0, 0, Op.SET, 5, 0);
        Op.steps(x, 1, 0, Op.FAIL, 7, 0);
        for (int round = 0; round < 12; round++) {
            for (int c = 0; c <= round; c++) {
                x.call(c % 8, 0, 0);
            }
            for (int turn = 0; turn < 200 && x.count(NOT_OVER) > 0; turn++) {
                x.run(1);
                for (int c = 0; c <= round; c++) {
                    check.due("never failed", x.ask(c, 0) == 2, false);
                }
            }
            for (int c = 0; c <= round; c++) {
                check.due("its own result", x.ask(c, 1), 5);
            }
            check.due("forgotten", x.forget(), round + 1);
        }
    }
}
