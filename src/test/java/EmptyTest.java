/** The empty cases: nothing to do, nothing there, none left. */
public final class EmptyTest {
    private static final long NOTHING = 1L << 40;

    private final Check check = new Check();

    public static void main(String[] args) {
        EmptyTest test = new EmptyTest();
        test.noTurns();
        test.noRequestsAndNoLine();
        test.noOutsideCalls();
        test.nothingToRestart();
        test.aTickOfNothing();
        test.methodsWithoutSteps();
        test.methodsThatLostTheirSteps();
        test.ownIntAtFirst();
        test.nothingWaits();
        test.timersAndRemindersOfNone();
        test.noCaller();
        test.theStoreAtFirst();
        test.grainsThatAreNotHere();
        test.check.finish();
    }

    /** "Up to n (1..40) TURNS: how many were done." None, where the LINE is empty. */
    private void noTurns() {
        GrainHost x = new GrainHost();
        check.due("run(1)", x.run(1), 0);
        check.due("run(40)", x.run(40), 0);
        check.due("turns", x.count(3), 0);
        Twins.refused(check, Places::idle, "run where nothing stands", y -> y.run(40), 0);
        Twins.refused(check, EmptyTest::eachWaitsForTheOther, "run where none is ready", y -> y.run(40), 0);
        GrainHost z = new GrainHost();
        eachWaitsForTheOther(z);
        check.due("four are not over", z.count(2), 4);
        check.due("none is in line", z.line(0), -1);
        z.limits(1, 0);
        z.tick(1);
        check.due("only a limit ends it", z.run(40), 2);
        check.due("none is left", z.count(2), 0);
    }

    /** Requests of two grains call one another's: what they made waits, and they await it. */
    private static void eachWaitsForTheOther(GrainHost x) {
        x.step(0, 0, Op.CALL, 8, 1);
        x.step(1, 0, Op.CALL, 0, 1);
        x.call(0, 0, 0);
        x.call(8, 0, 0);
        x.run(4);
    }

    /** "REFUSED (-1) if there is none", before the first one came and behind the last one. */
    private void noRequestsAndNoLine() {
        GrainHost x = new GrainHost();
        for (int round = 0; round < 3; round++) {
            check.due("line(0)", x.line(0), -1);
            check.due("in line", x.count(6), 0);
            check.due("not over", x.count(2), 0);
            for (int what = 0; what < 10; what++) {
                check.due("request(0, " + what + ")", x.request(0, what), -1);
            }
            x.call(round, 0, 0);
            check.due("one in line", x.line(0), -2 - round);
            check.due("and no second", x.line(1), -1);
            check.due("one request", x.request(0, 0), round);
            check.due("and no second", x.request(1, 0), -1);
            x.run(2);
        }
    }

    /** "NOTHING if there is none"; "All OUTSIDE calls are forgotten: how many there were." */
    private void noOutsideCalls() {
        GrainHost x = new GrainHost();
        for (int round = 0; round < 3; round++) {
            for (int what = 0; what < 3; what++) {
                check.due("ask(0, " + what + ")", x.ask(0, what), NOTHING);
            }
            check.due("none to forget", x.forget(), 0);
            check.due("calls", x.count(7), 0);
            x.call(0, 0, 0);
            check.due("a first one", x.ask(0, 0), 0);
            check.due("and no second", x.ask(1, 0), NOTHING);
            x.run(40);
            check.due("one to forget", x.forget(), 1);
        }
    }

    /** "how many REQUESTS were not OVER": none. */
    private void nothingToRestart() {
        GrainHost x = new GrainHost();
        check.due("restart()", x.restart(), 0);
        check.due("restart() again", x.restart(), 0);
        check.due("turns", x.count(3), 0);
        Twins.alike(check, "restart of a new one", y -> { }, y -> y.restart());
        Twins.alike(check, "restart twice", y -> stopped(y, 1), y -> stopped(y, 2));
    }

    private static void stopped(GrainHost x, int times) {
        Places.busy(x);
        for (int i = 0; i < times; i++) {
            x.restart();
        }
    }

    /** "the CLOCK is one more", and nothing else where nothing is. */
    private void aTickOfNothing() {
        GrainHost x = new GrainHost();
        x.limits(1, 1);
        long[] before = Snapshot.of(new RealHost(x));
        check.due("tick(20)", x.tick(20), 20);
        check.due("tick(1)", x.tick(1), 21);
        long[] after = Snapshot.of(new RealHost(x));
        int changed = 0;
        for (int i = 0; i < before.length; i++) {
            changed += before[i] == after[i] ? 0 : 1;
        }
        check.due("only the clock changed", changed, 1);
        check.due("the clock", x.count(0), 21);
    }

    /** "at first none"; "or there are none left: then it is OVER with the STATE as its RESULT" */
    private void methodsWithoutSteps() {
        for (int way = 0; way < 16; way++) {
            GrainHost x = new GrainHost();
            int g = 8 * (way / 4);
            x.call(g, way % 4, 77);
            check.due("two turns", x.run(40), 2);
            check.due("a result", x.ask(0, 0), 1);
            check.due("which is 0", x.ask(0, 1), 0);
            check.due("its grain stays", x.grain(g, 0), 2);
        }
        GrainHost y = new GrainHost();
        y.step(0, 1, Op.SET, 12, 0);
        y.call(0, 1, 0);
        y.call(0, 0, 0);
        y.run(40);
        check.due("the state that another one left", y.ask(1, 1), 12);
    }

    /** "it has no STEPS then: how many it had" */
    private void methodsThatLostTheirSteps() {
        for (int had = 0; had <= 8; had++) {
            GrainHost x = new GrainHost();
            for (int s = 0; s < had; s++) {
                x.step(1, 2, Op.ADD, 1, 0);
                x.step(1, 1, Op.ADD, 1, 0);
            }
            check.due("how many it had", x.method(1, 2, false, false), had);
            check.due("none then", x.method(1, 2, false, false), 0);
            x.call(8, 2, 0);
            x.run(2);
            check.due("none is done", x.ask(0, 1), 0);
            check.due("another one has its own still", x.method(1, 1, false, false), had);
        }
    }

    /** "R is the REQUEST's own int, 0 at first", also behind a request that left another one. */
    private void ownIntAtFirst() {
        GrainHost x = new GrainHost();
        Op.steps(x, 0, 0, Op.SET, -9, 0, Op.LET, 0, 0);
        Op.steps(x, 0, 1, Op.SET, 50, 0, Op.SKIP, 1, 0, Op.KEEP, 0, 0, Op.YIELD, 0, 0);
        for (int i = 0; i < 3; i++) {
            x.call(0, 0, 0);
            x.run(40);
            x.call(0, 1, 0);
            check.due("R", x.request(0, 5), 0);
            x.run(1);
            check.due("the state", x.grain(0, 1), 50);
            x.run(40);
        }
    }

    /** "if that is LEAVING, and nothing is BEGUN or WAITS there": each of both keeps it. */
    private void nothingWaits() {
        GrainHost x = new GrainHost();
        x.method(0, 1, true, false);
        Op.steps(x, 0, 0, Op.LEAVE, 0, 0);
        Op.steps(x, 0, 1, Op.YIELD, 0, 0);
        x.call(0, 0, 0);
        x.run(2);
        check.due("nothing there: it goes", x.grain(0, 0), 0);
        x.call(0, 0, 0);
        x.call(0, 1, 0);
        x.run(2);
        check.due("one begun: it stays", x.grain(0, 0), 3);
        check.due("begun", x.grain(0, 2), 1);
        x.run(40);
        check.due("it goes then", x.grain(0, 0), 0);
        x.call(0, 0, 0);
        x.call(0, 0, 0);
        x.run(2);
        check.due("one that waited: it stays", x.grain(0, 0), 3);
        x.run(1);
        check.due("it goes then", x.grain(0, 0), 0);
        check.due("three times", x.count(5), 3);
    }

    /** "0: none" of TIMER and REMIND: also where there was one. */
    private void timersAndRemindersOfNone() {
        int[] ops = {Op.TIMER, Op.REMIND};
        for (int op : ops) {
            int left = op == Op.TIMER ? 4 : 8;
            GrainHost x = new GrainHost();
            x.step(0, 0, op, 0, 0);
            x.step(0, 1, op, 1, 0);
            x.call(0, 0, 0);
            x.run(2);
            x.tick(20);
            check.due("0 where there was none", x.count(1), 1);
            x.call(0, 1, 0);
            x.run(1);
            check.due("one", x.grain(0, left), 1);
            x.call(0, 0, 0);
            x.run(1);
            check.due("0 where there was one", x.grain(0, left), 0);
            check.due("each none", x.grain(0, 9), 0);
            x.tick(20);
            check.due("nothing comes", x.count(1), 3);
        }
    }

    /** "One has a CALLER: .. or none": one that was told, and what a timer or reminder made, end alone. */
    private void noCaller() {
        GrainHost x = new GrainHost();
        Op.steps(x, 0, 0, Op.TELL, 8, 0, Op.TELL, 8, 1, Op.TIMER, 1, 0, Op.REMIND, 1, 0);
        Op.steps(x, 0, 2, Op.FAIL, 2, 0);
        Op.steps(x, 0, 3, Op.FAIL, 3, 0);
        Op.steps(x, 1, 0, Op.FAIL, 4, 0);
        x.call(0, 0, 0);
        x.run(40);
        check.due("its own result", x.ask(0, 0), 1);
        x.tick(1);
        check.due("two more", x.count(2), 2);
        check.due("they await none", x.request(0, 7), -1);
        check.due("two turns", x.run(40), 2);
        check.due("no call was told", x.ask(0, 1), 0);
        check.due("all over", x.count(2), 0);
    }

    /** "THE STORE has for each grain an int (at first 0), and how often it was STORED." */
    private void theStoreAtFirst() {
        for (int g = 0; g < 32; g++) {
            GrainHost x = new GrainHost();
            x.kind(g / 8, false, true);
            x.call(g, 0, 5);
            x.run(1);
            check.due("read from a store that has nothing", x.grain(g, 1), 0);
            check.due("which is not stored", x.grain(g, 7), 0);
        }
    }

    /** "its STATE (0 if it is not HERE)"; "0 if none"; "(0 if it is not HERE)" */
    private void grainsThatAreNotHere() {
        GrainHost x = new GrainHost();
        x.kind(0, false, true);
        Op.steps(x, 0, 0, Op.SET, 5, 0, Op.TIMER, 50, 0, Op.REMIND, 50, 0);
        Op.steps(x, 0, 1, Op.LEAVE, 0, 0);
        x.call(0, 0, 0);
        x.run(2);
        x.tick(3);
        int[] here = {2, 5, 0, 0, 47, 3, 0, 0, 47, 50};
        row("here", x, here);
        x.call(0, 1, 0);
        x.run(1);
        int[] absent = {0, 0, 0, 0, 0, 0, 5, 1, 47, 50};
        row("absent", x, absent);
        x.call(0, 1, 0);
        int[] coming = {1, 0, 0, 1, 0, 0, 5, 1, 47, 50};
        row("coming", x, coming);
        x.tick(2);
        int[] comingStill = {1, 0, 0, 1, 0, 0, 5, 1, 45, 50};
        row("coming still", x, comingStill);
    }

    private void row(String when, GrainHost x, int[] due) {
        for (int what = 0; what < due.length; what++) {
            check.due(when + ": grain(0, " + what + ")", x.grain(0, what), due[what]);
        }
    }
}
