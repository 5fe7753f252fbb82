/** The edges of time: timers, reminders, limit and age at 0, 1, just before, and at the most. */
public final class TimesTest {
    private static final int LATE = 103;

    private final Check check = new Check();

    public static void main(String[] args) {
        TimesTest test = new TimesTest();
        test.theClock();
        test.ticksOneByOneAndAtOnce();
        test.timers();
        test.aTimerInsteadOfAnother();
        test.aTimerSetByItsOwnRequest();
        test.reminders();
        test.aReminderInsteadOfAnother();
        test.remindersOfGrainsThatAreNotHere();
        test.limitsOfAwaiting();
        test.limitsOfOutsideCalls();
        test.limitNever();
        test.moreThanTheLimit();
        test.awaitingFromZeroEachTime();
        test.lateIsNotTwice();
        test.ages();
        test.ageNever();
        test.moreThanTheAge();
        test.idleFromZeroEachTime();
        test.whatKeepsFromBeingIdle();
        test.timersBeforeAge();
        test.fromTheFirstGrainToTheLast();
        test.check.finish();
    }

    private static void ticks(GrainHost x, int n) {
        for (int i = 0; i < n; i++) {
            x.tick(1);
        }
    }

    /** "n (1..20) TICKS: the CLOCK then." */
    private void theClock() {
        GrainHost x = new GrainHost();
        int clock = 0;
        for (int n = 1; n <= 20; n++) {
            clock += n;
            check.due("tick(" + n + ")", x.tick(n), clock);
            check.due("count(0)", x.count(0), clock);
        }
        for (int i = 0; i < 480; i++) {
            clock += 20;
            check.due("tick(20)", x.tick(20), clock);
        }
    }

    /** n TICKS are n times one TICK. */
    private void ticksOneByOneAndAtOnce() {
        int[] numbers = {1, 2, 19, 20};
        for (int n : numbers) {
            Twins.alike(check, "tick(" + n + ")", x -> ticksIn(x, n, 1), x -> ticksIn(x, 1, n));
        }
    }

    private static void ticksIn(GrainHost x, int times, int each) {
        Places.busy(x);
        x.limits(12, 3);
        for (int i = 0; i < times; i++) {
            x.tick(each);
        }
    }

    /** A host whose grain 0 did this step of this kind, in a request that is over. */
    private static GrainHost after(int op, int a) {
        GrainHost x = new GrainHost();
        x.step(0, 0, op, a, 0);
        x.call(0, 0, 0);
        x.run(2);
        return x;
    }

    /** "TIMER a: the grain's TIMER is at a TICKS (0: none)"; "a TIMER that is at 1 goes, and makes a REQUEST" */
    private void timers() {
        for (int a = 0; a <= 50; a++) {
            GrainHost x = after(Op.TIMER, a);
            for (int tick = 0; tick < a; tick++) {
                check.due("ticks left", x.grain(0, 4), a - tick);
                check.due("nothing yet", x.count(1), 1);
                x.tick(1);
            }
            check.due("gone", x.grain(0, 4), 0);
            check.due("made", x.count(1), a == 0 ? 1 : 2);
            check.due("method", x.request(0, 3), a == 0 ? -1 : 3);
            x.tick(20);
            check.due("once", x.count(1), a == 0 ? 1 : 2);
        }
    }

    /** "instead of what it was" */
    private void aTimerInsteadOfAnother() {
        int[] later = {1, 2, 50};
        for (int a : later) {
            GrainHost x = after(Op.TIMER, 3);
            x.tick(2);
            x.step(0, 1, Op.TIMER, a, 0);
            x.call(0, 1, 0);
            x.run(1);
            check.due("the later one", x.grain(0, 4), a);
            ticks(x, a - 1);
            check.due("not before", x.count(1), 2);
            x.tick(1);
            check.due("then", x.count(1), 3);
        }
    }

    /** The timer's own request sets it again: it is not less in the tick that it came in. */
    private void aTimerSetByItsOwnRequest() {
        GrainHost x = after(Op.TIMER, 1);
        x.step(0, 3, Op.TIMER, 1, 0);
        for (int tick = 1; tick <= 5; tick++) {
            x.tick(1);
            check.due("one each tick", x.count(1), 1 + tick);
            check.due("gone till its turn", x.grain(0, 4), 0);
            x.run(1);
            check.due("set again", x.grain(0, 4), 1);
        }
    }

    /** "REMIND a: the grain's REMINDER comes each a TICKS from now on (0: none)" */
    private void reminders() {
        for (int a = 0; a <= 50; a++) {
            GrainHost x = after(Op.REMIND, a);
            check.due("each", x.grain(0, 9), a);
            for (int tick = 0; tick < a; tick++) {
                check.due("ticks to it", x.grain(0, 8), a - tick);
                check.due("nothing yet", x.count(1), 1);
                x.tick(1);
            }
            check.due("anew", x.grain(0, 8), a);
            check.due("made", x.count(1), a == 0 ? 1 : 2);
            check.due("method", x.request(0, 3), a == 0 ? -1 : 2);
        }
    }

    /** "from now on": with the ticks of the new number, also where it is the same one. */
    private void aReminderInsteadOfAnother() {
        int[] later = {1, 3, 4, 50};
        for (int a : later) {
            GrainHost x = after(Op.REMIND, 3);
            x.tick(2);
            x.step(0, 1, Op.REMIND, a, 0);
            x.call(0, 1, 0);
            x.run(1);
            check.due("the later one", x.grain(0, 8), a);
            check.due("each", x.grain(0, 9), a);
            ticks(x, a - 1);
            check.due("not before", x.count(1), 2);
            x.tick(1);
            check.due("then", x.count(1), 3);
        }
    }

    /** A timer goes with its grain, a reminder does not: it comes for one that is absent or coming. */
    private void remindersOfGrainsThatAreNotHere() {
        GrainHost x = new GrainHost();
        Op.steps(x, 0, 0, Op.TIMER, 2, 0, Op.REMIND, 2, 0, Op.LEAVE, 0, 0);
        x.call(0, 0, 0);
        x.run(2);
        x.tick(1);
        check.due("absent", x.grain(0, 0), 0);
        x.tick(1);
        check.due("one request", x.count(2), 1);
        check.due("coming", x.grain(0, 0), 1);
        x.tick(2);
        check.due("another one", x.grain(0, 3), 2);
        check.due("in line once", x.count(6), 1);
    }

    /** Grain 0 calls grain 8, which is coming. */
    private static GrainHost awaiting(int limit, boolean caught) {
        GrainHost x = new GrainHost();
        x.step(0, 0, Op.CALL, 8, 0);
        if (caught) {
            Op.steps(x, 0, 0, Op.CATCH, 0, 0, Op.KEEP, 0, 0);
        }
        x.limits(limit, 0);
        x.call(0, 0, 0);
        x.run(2);
        return x;
    }

    /** "has done so for one TICK more; with the LIMIT or more its CALL FAILS with LATE" */
    private void limitsOfAwaiting() {
        for (int limit = 1; limit <= 100; limit++) {
            GrainHost x = awaiting(limit, true);
            ticks(x, limit - 1);
            check.due("awaits still", x.request(0, 1), 2);
            check.due("for", x.request(0, 8), limit - 1);
            x.tick(1);
            check.due("ready", x.request(0, 1), 1);
            check.due("R", x.request(0, 5), -LATE);
            check.due("for none", x.request(0, 8), 0);
            check.due("the other one goes on", x.request(1, 1), 0);
            GrainHost y = awaiting(limit, false);
            ticks(y, limit - 1);
            check.due("two are not over", y.count(2), 2);
            y.tick(1);
            check.due("over by that", y.count(2), 1);
            check.due("the other one is not", y.request(0, 0), 1);
        }
    }

    /** "then OUTSIDE calls that are PENDING likewise (they FAIL with LATE)" */
    private void limitsOfOutsideCalls() {
        for (int limit = 1; limit <= 100; limit++) {
            GrainHost x = new GrainHost();
            x.limits(limit, 0);
            x.call(0, 0, 0);
            ticks(x, limit - 1);
            check.due("pending", x.ask(0, 0), 0);
            check.due("no code", x.ask(0, 1), 0);
            x.tick(1);
            check.due("failed", x.ask(0, 0), 2);
            check.due("with", x.ask(0, 1), LATE);
            check.due("its request waits still", x.request(0, 1), 0);
            x.run(2);
            check.due("it is not told", x.ask(0, 1), LATE);
        }
    }

    /** "LIMIT and AGE are 0 at first: never." */
    private void limitNever() {
        for (int way = 0; way < 2; way++) {
            GrainHost x = awaiting(way == 0 ? 0 : 5, false);
            x.limits(0, 0);
            for (int i = 0; i < 20; i++) {
                x.tick(20);
            }
            check.due("pending", x.ask(0, 0), 0);
            check.due("awaits", x.request(0, 8), 400);
        }
    }

    /** "with the LIMIT or more": a limit that is set when it is passed already. */
    private void moreThanTheLimit() {
        int[] limits = {1, 4, 5, 6};
        for (int limit : limits) {
            GrainHost x = awaiting(0, true);
            x.tick(5);
            x.limits(limit, 0);
            check.due("only a tick makes it late", x.request(0, 1), 2);
            x.tick(1);
            check.due("late with " + limit, x.request(0, 1), 1);
            check.due("and the call from outside", x.ask(0, 1), LATE);
        }
        GrainHost y = awaiting(0, true);
        y.tick(5);
        y.limits(7, 0);
        y.tick(1);
        check.due("6 is below 7", y.request(0, 1), 2);
        check.due("pending", y.ask(0, 0), 0);
    }

    /** A second call of the same request is awaited from 0 on. */
    private void awaitingFromZeroEachTime() {
        GrainHost x = new GrainHost();
        Op.steps(x, 0, 0, Op.CALL, 8, 0, Op.CATCH, 0, 0, Op.CALL, 16, 0, Op.CATCH, 0, 0, Op.KEEP, 0, 0);
        x.call(0, 0, 0);
        x.run(2);
        x.limits(3, 0);
        x.tick(2);
        x.run(3);
        check.due("awaits the second", x.request(0, 7), 2);
        check.due("for none yet", x.request(0, 8), 0);
        x.tick(2);
        check.due("for two", x.request(0, 8), 2);
        x.tick(1);
        check.due("late", x.request(0, 5), -LATE);
    }

    /** One that was late is ready: ticks do nothing more to it, and its outside call keeps its code. */
    private void lateIsNotTwice() {
        GrainHost x = awaiting(1, true);
        x.tick(1);
        int inLine = x.count(6);
        x.tick(20);
        check.due("in line as it was", x.count(6), inLine);
        check.due("R", x.request(0, 5), -LATE);
        check.due("the step that comes next", x.request(0, 6), 2);
    }

    private static GrainHost idle(int age) {
        GrainHost x = new GrainHost();
        x.limits(0, age);
        x.call(0, 0, 0);
        x.run(2);
        return x;
    }

    /** "has been IDLE for one TICK more ..; with the AGE or more it GOES" */
    private void ages() {
        for (int age = 1; age <= 100; age++) {
            GrainHost x = idle(age);
            ticks(x, age - 1);
            check.due("here", x.grain(0, 0), 2);
            check.due("idle for", x.grain(0, 5), age - 1);
            x.tick(1);
            check.due("gone", x.grain(0, 0), 0);
            check.due("idle for none", x.grain(0, 5), 0);
            check.due("none is here", x.count(4), 0);
        }
    }

    private void ageNever() {
        for (int way = 0; way < 2; way++) {
            GrainHost x = idle(way == 0 ? 0 : 5);
            x.limits(0, 0);
            for (int i = 0; i < 20; i++) {
                x.tick(20);
            }
            check.due("here", x.grain(0, 0), 2);
            check.due("idle for", x.grain(0, 5), 400);
        }
    }

    private void moreThanTheAge() {
        int[] ages = {1, 4, 5, 6};
        for (int age : ages) {
            GrainHost x = idle(0);
            x.tick(5);
            x.limits(0, age);
            check.due("only a tick lets it go", x.grain(0, 0), 2);
            x.tick(1);
            check.due("gone with " + age, x.grain(0, 0), 0);
        }
        GrainHost y = idle(0);
        y.tick(5);
        y.limits(0, 7);
        y.tick(1);
        check.due("6 is below 7", y.grain(0, 0), 2);
    }

    /** "(0 as soon as something WAITS there, or it comes to be HERE)" */
    private void idleFromZeroEachTime() {
        GrainHost x = idle(0);
        x.tick(5);
        x.call(0, 0, 0);
        check.due("0 at once", x.grain(0, 5), 0);
        x.run(1);
        check.due("0 when it is over", x.grain(0, 5), 0);
        x.tick(1);
        check.due("1 then", x.grain(0, 5), 1);
        x.restart();
        check.due("absent", x.grain(0, 5), 0);
        x.call(0, 0, 0);
        x.tick(3);
        check.due("coming", x.grain(0, 5), 0);
        x.run(2);
        check.due("here", x.grain(0, 5), 0);
        x.tick(1);
        check.due("idle for", x.grain(0, 5), 1);
    }

    /** "at which nothing is BEGUN or WAITS": what is ready, awaits or waits keeps it. */
    private void whatKeepsFromBeingIdle() {
        GrainHost x = new GrainHost();
        x.limits(0, 1);
        Op.steps(x, 0, 0, Op.CALL, 8, 0);
        Op.steps(x, 1, 0, Op.YIELD, 0, 0);
        x.call(0, 0, 0);
        x.call(0, 1, 0);
        x.run(1);
        x.tick(2);
        check.due("one ready, one waits", x.grain(0, 0), 2);
        check.due("not idle", x.grain(0, 5), 0);
        x.run(1);
        x.tick(2);
        check.due("one awaits, one waits", x.grain(0, 0), 2);
        check.due("not idle", x.grain(0, 5), 0);
        check.due("a coming one is not idle", x.grain(8, 0), 1);
        x.run(1);
        x.tick(1);
        check.due("the called one is ready", x.grain(8, 0), 2);
        x.run(40);
        check.due("both are here", x.count(4), 2);
        x.tick(1);
        check.due("both are gone", x.count(4), 0);
    }

    /** The timer comes before the age in the same tick: its request keeps the grain. */
    private void timersBeforeAge() {
        int[] ops = {Op.TIMER, Op.REMIND};
        for (int op : ops) {
            GrainHost x = after(op, 3);
            x.limits(0, 3);
            x.tick(3);
            check.due("here", x.grain(0, 0), 2);
            check.due("not idle", x.grain(0, 5), 0);
            GrainHost y = after(op, 4);
            y.limits(0, 3);
            y.tick(3);
            check.due("gone before it", y.grain(0, 0), 0);
            check.due("without timer", y.grain(0, 4), 0);
            y.tick(1);
            check.due("only a reminder comes then", y.count(6), op == Op.TIMER ? 0 : 1);
        }
    }

    /** "by grains": each of 0..31 has its timer, its reminder and its age, and 31 comes last. */
    private void fromTheFirstGrainToTheLast() {
        for (int g = 0; g < 32; g++) {
            GrainHost x = new GrainHost();
            Op.steps(x, g / 8, 0, Op.TIMER, 2, 0, Op.REMIND, 3, 0);
            x.call(g, 0, 9);
            x.run(2);
            x.tick(2);
            check.due("timer's grain", x.request(0, 2), g);
            check.due("timer's arg", x.request(0, 4), 0);
            check.due("timer's chain", x.request(0, 9), 1);
            x.tick(1);
            check.due("reminder's grain", x.request(1, 2), g);
            check.due("reminder's arg", x.request(1, 4), 0);
            check.due("reminder's chain", x.request(1, 9), 1);
            x.run(40);
            x.tick(2);
            check.due("idle for", x.grain(g, 5), 2);
            x.limits(0, 2);
            x.run(40);
            x.tick(1);
            check.due("its reminder keeps it", x.grain(g, 0), 2);
            x.run(1);
            x.tick(2);
            check.due("gone by its age", x.grain(g, 0), 0);
        }
        int[] ops = {Op.TIMER, Op.REMIND};
        for (int op : ops) {
            int[] order = {0, 7, 8, 15, 16, 23, 24, 31};
            GrainHost x = new GrainHost();
            for (int k = 0; k < 4; k++) {
                x.step(k, 0, op, 1, 0);
            }
            for (int i = 7; i >= 0; i--) {
                x.call(order[i], 0, 0);
            }
            x.run(40);
            x.tick(1);
            for (int k = 0; k < 8; k++) {
                check.due("by grains", x.request(k, 2), order[k]);
            }
        }
    }
}
