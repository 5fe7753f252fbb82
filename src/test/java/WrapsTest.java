/** What wraps, what begins anew, and the ints at both ends. */
public final class WrapsTest {
    private static final int LEAST = Integer.MIN_VALUE, MOST = Integer.MAX_VALUE;
    private static final int[] ENDS = {LEAST, LEAST + 1, -1, 0, 1, MOST - 1, MOST};

    private final Check check = new Check();

    public static void main(String[] args) {
        WrapsTest test = new WrapsTest();
        test.addWraps();
        test.takeWraps();
        test.keepWraps();
        test.wrapsInTheStoreToo();
        test.endsAreArgs();
        test.endsAreResults();
        test.outsideNumbersBeginAnew();
        test.remindersBeginAnew();
        test.theLineGoesRound();
        test.check.finish();
    }

    private static GrainHost done(int arg, int... steps) {
        GrainHost x = new GrainHost();
        Op.steps(x, 0, 0, steps);
        x.call(0, 0, arg);
        x.run(2);
        return x;
    }

    private void ended(String what, GrainHost x, int due) {
        check.due(what + ": result", x.ask(0, 1), due);
        check.due(what + ": state", x.grain(0, 1), due);
    }

    /** "0 ADD a: the STATE grows by a (wraps)" */
    private void addWraps() {
        for (int state : ENDS) {
            for (int a : ENDS) {
                ended("SET " + state + " ADD " + a, done(0, Op.SET, state, 0, Op.ADD, a, 0), state + a);
            }
        }
        ended("one over the most", done(0, Op.SET, MOST, 0, Op.ADD, 1, 0), LEAST);
        ended("one under the least", done(0, Op.SET, LEAST, 0, Op.ADD, -1, 0), MOST);
    }

    /** "1 TAKE: by ARG" */
    private void takeWraps() {
        for (int state : ENDS) {
            for (int arg : ENDS) {
                ended("SET " + state + " TAKE " + arg, done(arg, Op.SET, state, 0, Op.TAKE, 0, 0), state + arg);
            }
        }
        ended("one over the most", done(1, Op.SET, MOST, 0, Op.TAKE, 0, 0), LEAST);
        ended("one under the least", done(-1, Op.SET, LEAST, 0, Op.TAKE, 0, 0), MOST);
    }

    /** "2 KEEP: by R" */
    private void keepWraps() {
        for (int state : ENDS) {
            for (int r : ENDS) {
                GrainHost x = done(0, Op.SET, r, 0, Op.LET, 0, 0, Op.SET, state, 0, Op.KEEP, 0, 0);
                ended("SET " + state + " KEEP " + r, x, state + r);
            }
        }
    }

    private void wrapsInTheStoreToo() {
        GrainHost x = done(0, Op.SET, MOST, 0, Op.ADD, 1, 0, Op.SAVE, 0, 0);
        check.due("stored", x.grain(0, 6), LEAST);
        GrainHost y = new GrainHost();
        y.kind(0, false, true);
        Op.steps(y, 0, 0, Op.TAKE, 0, 0, Op.LEAVE, 0, 0);
        y.call(0, 0, MOST);
        y.call(0, 0, MOST);
        y.run(40);
        y.call(0, 0, 2);
        y.run(40);
        check.due("read and grown", y.ask(2, 1), 0);
    }

    /** "ARG (an int)": of an outside call, and the STATE as ARG of a call and of a tell. */
    private void endsAreArgs() {
        int[] ops = {Op.CALL, Op.TELL};
        for (int end : ENDS) {
            for (int op : ops) {
                GrainHost x = new GrainHost();
                Op.steps(x, 0, 0, Op.TAKE, 0, 0, op, 8, 0, Op.YIELD, 0, 0);
                x.call(0, 0, end);
                check.due("arg", x.request(0, 4), end);
                x.run(2);
                check.due("arg that was handed on", x.request(1, 4), end);
            }
        }
    }

    /** "R of that is the RESULT"; ask answers it as it is, and never as NOTHING. */
    private void endsAreResults() {
        for (int end : ENDS) {
            GrainHost x = new GrainHost();
            Op.steps(x, 0, 0, Op.CALL, 8, 0, Op.SET, 0, 0, Op.KEEP, 0, 0);
            Op.steps(x, 1, 0, Op.SET, end, 0);
            x.call(0, 0, 0);
            x.run(4);
            check.due("R", x.request(0, 5), end);
            x.run(1);
            check.due("a result", x.ask(0, 0), 1);
            check.due("result", x.ask(0, 1), end);
        }
    }

    /** "OUTSIDE calls 0..11 are numbered as they are made", REQUESTS "from 0 on": these go on. */
    private void outsideNumbersBeginAnew() {
        GrainHost x = new GrainHost();
        int made = 0;
        for (int round = 0; round < 4; round++) {
            for (int c = 0; c < 12; c++) {
                check.due("number", x.call(c, 0, 0), c);
                check.due("its request", x.ask(c, 2), made);
                made++;
            }
            x.run(40);
            check.due("forgotten", x.forget(), 12);
            check.due("requests so far", x.count(1), made);
        }
    }

    /** "REMINDERS .. begin anew with their number" */
    private void remindersBeginAnew() {
        int[] numbers = {1, 2, 7, 50};
        for (int each : numbers) {
            GrainHost x = done(0, Op.REMIND, each, 0);
            for (int tick = 1; tick <= 120; tick++) {
                x.tick(1);
                check.due("ticks to it", x.grain(0, 8), each - tick % each);
                check.due("each", x.grain(0, 9), each);
                check.due("came", x.count(1) - 1, tick / each);
                x.run(40);
            }
        }
    }

    /** However long the line was in use, its first one is the one that came first. */
    private void theLineGoesRound() {
        for (int length = 1; length <= 12; length++) {
            GrainHost x = new GrainHost();
            for (int s = 0; s < 8; s++) {
                x.step(0, 0, Op.YIELD, 0, 0);
                x.step(1, 0, Op.YIELD, 0, 0);
            }
            for (int g = 0; g < length; g++) {
                x.call(g, 0, 0);
            }
            x.run(length);
            for (int turn = 0; turn < 8 * length; turn++) {
                for (int k = 0; k < length; k++) {
                    check.due("line(" + k + ")", x.line(k), (turn + k) % length);
                }
                check.due("behind it", x.line(length), -1);
                x.run(1);
            }
        }
    }
}
