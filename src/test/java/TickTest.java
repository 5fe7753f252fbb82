/** Promise 10. */
public final class TickTest {
    public static void main(String[] args) {
        Check check = new Check();
        answers(check);
        timers(check);
        reminders(check);
        timersBeforeRemindersByGrains(check);
        noneInACrowd(check);
        lateAwaits(check);
        lateIsCaught(check);
        lateTellsNothingLater(check);
        lateByNumbers(check);
        lateOutside(check);
        idleGrains(check);
        idleGrainsAreStored(check);
        check.finish();
    }

    private static void answers(Check check) {
        GrainHost x = new GrainHost();
        int[] wrong = {0, -1, 21, Integer.MIN_VALUE, Integer.MAX_VALUE};
        for (int n : wrong) {
            check.refused(x, "tick(" + n + ")", () -> x.tick(n), -1);
        }
        check.due("tick(1)", x.tick(1), 1);
        check.due("tick(20)", x.tick(20), 21);
        x.call(0, 0, 0);
        check.due("tick(3)", x.tick(3), 24);
        check.due("ticks do no turns", x.count(3), 0);
        check.due("line", x.line(0), -2);
    }

    private static void timers(Check check) {
        GrainHost x = new GrainHost();
        x.step(0, 0, Op.TIMER, 3, 0);
        x.step(0, 3, Op.ADD, 8, 0);
        x.call(4, 0, 99);
        x.run(2);
        x.tick(2);
        check.due("one tick left", x.grain(4, 4), 1);
        check.due("nothing yet", x.count(6), 0);
        x.tick(1);
        check.due("gone", x.grain(4, 4), 0);
        check.due("a request", x.line(0), 1);
        check.due("method", x.request(0, 3), 3);
        check.due("grain", x.request(0, 2), 4);
        check.due("arg", x.request(0, 4), 0);
        check.due("chain", x.request(0, 9), 1);
        check.due("one without a timer has none", x.grain(5, 4), 0);
        check.due("nor a reminder", x.grain(5, 8), 0);
        x.run(1);
        check.due("done", x.grain(4, 1), 8);
        x.tick(20);
        check.due("once", x.count(1), 2);
    }

    private static void reminders(Check check) {
        GrainHost x = new GrainHost();
        Op.steps(x, 0, 0, Op.REMIND, 2, 0, Op.LEAVE, 0, 0);
        Op.steps(x, 0, 2, Op.LEAVE, 0, 0);
        x.call(4, 0, 99);
        x.run(2);
        check.due("gone", x.grain(4, 0), 0);
        x.tick(1);
        check.due("one tick to it", x.grain(4, 8), 1);
        x.tick(1);
        check.due("it wakes the grain", x.line(0), -6);
        check.due("it begins anew", x.grain(4, 8), 2);
        check.due("method", x.request(0, 3), 2);
        check.due("arg", x.request(0, 4), 0);
        x.tick(4);
        check.due("three wait", x.grain(4, 3), 3);
        x.run(40);
        check.due("and were done", x.count(2), 0);
        check.due("gone again", x.grain(4, 0), 0);
    }

    private static void timersBeforeRemindersByGrains(Check check) {
        GrainHost x = new GrainHost();
        Op.steps(x, 0, 0, Op.TIMER, 1, 0, Op.REMIND, 1, 0);
        x.call(5, 0, 0);
        x.call(2, 0, 0);
        x.run(4);
        x.tick(1);
        int[][] due = {{2, 3}, {5, 3}, {2, 2}, {5, 2}};
        for (int k = 0; k < 4; k++) {
            check.due("grain", x.request(k, 2), due[k][0]);
            check.due("method", x.request(k, 3), due[k][1]);
        }
    }

    private static void noneInACrowd(Check check) {
        GrainHost x = new GrainHost();
        for (int i = 0; i < 8; i++) {
            x.step(0, 0, Op.TELL, 0, 0);
        }
        Op.steps(x, 1, 0, Op.TIMER, 2, 0, Op.REMIND, 2, 0);
        x.call(8, 0, 0);
        x.run(2);
        x.tick(1);
        x.call(0, 0, 0);
        x.run(5);
        check.due("29", x.count(2), 29);
        x.tick(1);
        check.due("room for the timer's request alone", x.count(2), 30);
        check.due("which is for method 3", x.request(29, 3), 3);
        check.due("the timer goes", x.grain(8, 4), 0);
        check.due("the reminder begins anew", x.grain(8, 8), 2);
    }

    private static GrainHost awaiting(int limit) {
        GrainHost x = new GrainHost();
        Op.steps(x, 0, 0, Op.CALL, 8, 0, Op.ADD, 1, 0);
        Op.steps(x, 0, 1, Op.CALL, 8, 0, Op.CATCH, 0, 0, Op.KEEP, 0, 0);
        Op.steps(x, 0, 2, Op.CALL, 1, 0, Op.ADD, 1, 0);
        Op.steps(x, 1, 0, Op.SET, 5, 0);
        x.limits(limit, 0);
        return x;
    }

    private static void lateAwaits(Check check) {
        GrainHost x = awaiting(3);
        x.call(0, 0, 0);
        x.run(1);
        x.tick(2);
        check.due("one that is ready does not await", x.request(0, 8), 0);
        x.run(1);
        x.call(0, 3, 0);
        x.tick(2);
        check.due("the outside call is late", x.ask(0, 1), 103);
        check.due("the request awaits still", x.request(0, 8), 2);
        x.tick(1);
        check.due("it is over then", x.request(0, 0), 1);
        check.due("the called one goes on", x.request(0, 1), 0);
        check.due("what waited at its grain is ready", x.request(1, 1), 1);
        x.run(40);
        check.due("the called one came to its end", x.grain(8, 1), 5);
        check.due("nothing is left", x.count(2), 0);
        check.due("no step behind the call was done", x.grain(0, 1), 0);
    }

    private static void lateIsCaught(Check check) {
        GrainHost x = awaiting(1);
        x.call(0, 1, 0);
        x.run(2);
        x.tick(1);
        check.due("ready", x.request(0, 1), 1);
        check.due("its own int", x.request(0, 5), -103);
        check.due("the step that comes next", x.request(0, 6), 2);
        check.due("it awaits none", x.request(0, 7), -1);
        check.due("for no ticks", x.request(0, 8), 0);
        check.due("back of the line", x.line(1), 0);
        x.tick(5);
        check.due("one that is ready is not late", x.request(0, 8), 0);
        x.run(3);
        check.due("it goes on with that alone", x.grain(0, 1), -103);
        check.due("all are over", x.count(2), 0);
    }

    /** The called one ends while its caller, whose call was late, is ready or awaits another. */
    private static void lateTellsNothingLater(Check check) {
        GrainHost x = new GrainHost();
        Op.steps(x, 0, 0, Op.CALL, 8, 0, Op.CATCH, 0, 0, Op.KEEP, 0, 0, Op.CALL, 16, 0, Op.KEEP, 0, 0);
        Op.steps(x, 1, 0, Op.SET, 5, 0);
        Op.steps(x, 2, 0, Op.SET, 1000, 0, Op.YIELD, 0, 0);
        x.limits(1, 0);
        x.call(0, 0, 0);
        x.run(3);
        x.tick(1);
        check.due("the called one is first", x.line(0), 1);
        check.due("its caller is behind", x.line(1), 0);
        x.run(1);
        check.due("the called one is over", x.count(2), 1);
        check.due("its caller is in line once", x.count(6), 1);
        check.due("with what was late", x.request(0, 5), -103);
        x.restart();
        x.call(0, 0, 0);
        x.run(2);
        x.tick(1);
        x.call(8, 1, 0);
        x.limits(0, 0);
        check.due("the caller is behind the grain that comes", x.line(1), 2);
        x.run(2);
        check.due("it awaits another one", x.request(0, 7), 5);
        x.run(1);
        check.due("the first called one is over", x.request(1, 0), 4);
        check.due("that tells nothing", x.request(0, 1), 2);
        x.run(40);
        check.due("the other one's result is taken", x.grain(0, 1), 897);
    }

    private static void lateByNumbers(Check check) {
        GrainHost x = awaiting(0);
        x.call(0, 2, 0);
        x.run(2);
        x.tick(1);
        x.run(2);
        x.tick(1);
        check.due("the first awaits", x.request(0, 8), 2);
        check.due("the second awaits", x.request(1, 8), 1);
        x.call(0, 3, 0);
        x.call(1, 3, 0);
        x.limits(2, 0);
        x.tick(1);
        check.due("both are over", x.request(0, 0), 2);
        check.due("the line", x.line(0), -10);
        check.due("the first one's grain is looked at first", x.line(1), 3);
        check.due("then the second one's", x.line(2), 4);

        GrainHost y = awaiting(0);
        y.call(0, 2, 0);
        y.call(2, 1, 0);
        y.run(7);
        check.due("three await", y.request(2, 7), 4);
        y.limits(1, 0);
        y.tick(1);
        check.due("the first is over", y.request(0, 0), 1);
        check.due("the second caught it", y.request(0, 5), -103);
        check.due("the third is over, and what they called is not", y.request(1, 0), 3);
        check.due("three are left", y.count(2), 3);
        check.due("the line", y.line(0), 3);
        check.due("the second is behind", y.line(1), 1);
        check.due("the first one's code", y.ask(0, 1), 103);
    }

    private static void lateOutside(Check check) {
        GrainHost x = awaiting(2);
        x.call(8, 0, 0);
        x.tick(1);
        x.call(9, 0, 0);
        x.tick(1);
        check.due("the first is late", x.ask(0, 0), 2);
        check.due("code", x.ask(0, 1), 103);
        check.due("the second is not", x.ask(1, 0), 0);
        check.due("both requests go on", x.count(2), 2);
        x.run(40);
        check.due("the first stays late", x.ask(0, 1), 103);
        check.due("the second has a result", x.ask(1, 1), 5);
        x.tick(5);
        check.due("and keeps it", x.ask(1, 1), 5);
    }

    private static void idleGrains(Check check) {
        GrainHost x = new GrainHost();
        x.step(0, 1, Op.YIELD, 0, 0);
        x.step(0, 0, Op.TIMER, 5, 0);
        x.limits(0, 3);
        x.call(0, 0, 0);
        x.run(2);
        x.tick(2);
        check.due("idle", x.grain(0, 5), 2);
        x.call(0, 1, 0);
        check.due("not idle as soon as something comes", x.grain(0, 5), 0);
        x.tick(1);
        check.due("not idle while it is begun", x.grain(0, 5), 0);
        x.run(2);
        x.tick(1);
        check.due("idle from then on", x.grain(0, 5), 1);
        x.tick(1);
        check.due("its timer came", x.grain(0, 5), 0);
        x.run(1);
        x.tick(2);
        check.due("here", x.grain(0, 0), 2);
        x.tick(1);
        check.due("gone", x.grain(0, 0), 0);
        check.due("idle no more", x.grain(0, 5), 0);
        x.call(0, 1, 0);
        x.run(1);
        x.tick(1);
        check.due("new", x.grain(0, 5), 0);
        GrainHost y = new GrainHost();
        y.limits(0, 1);
        Op.steps(y, 0, 0, Op.TIMER, 2, 0);
        y.call(0, 0, 0);
        y.run(2);
        y.tick(2);
        check.due("a timer goes with its grain", y.count(6), 0);
    }

    private static void idleGrainsAreStored(Check check) {
        GrainHost x = new GrainHost();
        x.kind(0, false, true);
        x.step(0, 0, Op.TAKE, 0, 0);
        x.limits(0, 2);
        x.call(6, 0, 60);
        x.call(1, 0, 10);
        x.call(8, 0, 80);
        x.run(40);
        x.fails(1);
        x.tick(2);
        check.due("none is here", x.count(4), 0);
        check.due("the first writing failed", x.grain(1, 7), 0);
        check.due("the other worked", x.grain(6, 6), 60);
        check.due("one not kept is not stored", x.grain(8, 7), 0);
    }
}
