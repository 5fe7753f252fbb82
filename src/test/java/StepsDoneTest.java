/** Promise 9: what each step does. */
public final class StepsDoneTest {
    public static void main(String[] args) {
        Check check = new Check();
        numbers(check);
        ownInt(check);
        callsAndTells(check);
        saving(check);
        timersAndReminders(check);
        skipping(check);
        failing(check);
        check.finish();
    }

    /** A host on which method 0 of kind 0 has these steps, called for grain 0 and run to its end. */
    private static GrainHost done(int arg, int... steps) {
        GrainHost x = new GrainHost();
        Op.steps(x, 0, 0, steps);
        x.call(0, 0, arg);
        x.run(40);
        return x;
    }

    private static void numbers(Check check) {
        check.due("no steps", done(9).ask(0, 1), 0);
        check.due("no steps: a result", done(9).ask(0, 0), 1);
        check.due("ADD", done(9, Op.ADD, 5, 0, Op.ADD, -7, 0).ask(0, 1), -2);
        check.due("ADD wraps", done(0, Op.SET, Integer.MAX_VALUE, 0, Op.ADD, 1, 0).ask(0, 1), Integer.MIN_VALUE);
        check.due("TAKE", done(9, Op.ADD, 5, 0, Op.TAKE, 0, 0).ask(0, 1), 14);
        check.due("TAKE without R", done(9, Op.ADD, 5, 0, Op.LET, 0, 0, Op.TAKE, 0, 0).ask(0, 1), 14);
        check.due("TAKE wraps", done(Integer.MIN_VALUE, Op.ADD, -1, 0, Op.TAKE, 0, 0).ask(0, 1), Integer.MAX_VALUE);
        check.due("SET", done(9, Op.ADD, 5, 0, Op.SET, -3, 0).ask(0, 1), -3);
        check.due("CATCH alone", done(9, Op.ADD, 5, 0, Op.CATCH, 0, 0).ask(0, 1), 5);
    }

    private static void ownInt(Check check) {
        check.due("KEEP at first", done(9, Op.ADD, 5, 0, Op.KEEP, 0, 0).ask(0, 1), 5);
        check.due("LET, KEEP", done(9, Op.ADD, 5, 0, Op.LET, 0, 0, Op.SET, 100, 0, Op.KEEP, 0, 0).ask(0, 1), 105);
        int[] skipping = {Op.SET, -1, 0, Op.LET, 0, 0, Op.SET, 50, 0, Op.SKIP, 1, 0, Op.FAIL, 1, 0, Op.KEEP, 0, 0};
        check.due("SKIP leaves it", done(9, skipping).ask(0, 1), 49);
        int[] leaving = {Op.SET, -1, 0, Op.LET, 0, 0, Op.LEAVE, 0, 0, Op.ADD, 50, 0};
        check.due("LEAVE skips nothing", done(9, leaving).ask(0, 1), 49);
        int[] reminding = {Op.REMIND, 3, 0, Op.YIELD, 0, 0, Op.YIELD, 0, 0};
        GrainHost reminded = new GrainHost();
        Op.steps(reminded, 0, 0, reminding);
        reminded.call(0, 0, 0);
        reminded.run(2);
        check.due("REMIND does not make it leave", reminded.grain(0, 0), 2);
        check.due("KEEP wraps", done(9, Op.SET, Integer.MAX_VALUE, 0, Op.LET, 0, 0, Op.KEEP, 0, 0).ask(0, 1), -2);
        GrainHost x = done(0, Op.SET, 5, 0, Op.LET, 0, 0);
        x.method(0, 0, false, false);
        x.step(0, 0, Op.KEEP, 0, 0);
        x.call(0, 0, 0);
        x.run(1);
        check.due("a request's own int is 0 at first", x.ask(1, 1), 5);
    }

    private static void callsAndTells(Check check) {
        GrainHost x = new GrainHost();
        Op.steps(x, 0, 0, Op.SET, 7, 0, Op.CALL, 8, 1, Op.SET, 1000, 0, Op.KEEP, 0, 0);
        Op.steps(x, 1, 1, Op.ADD, 30, 0, Op.TAKE, 0, 0);
        x.call(0, 0, 0);
        x.run(2);
        check.due("the caller awaits", x.request(0, 1), 2);
        check.due("the called one", x.request(0, 7), 1);
        check.due("the step that comes next", x.request(0, 6), 2);
        check.due("method", x.request(1, 3), 1);
        check.due("grain", x.request(1, 2), 8);
        check.due("arg", x.request(1, 4), 7);
        x.run(2);
        check.due("the result is its own int", x.request(0, 5), 37);
        check.due("it is ready", x.request(0, 1), 1);
        check.due("it awaits none", x.request(0, 7), -1);
        x.run(1);
        check.due("its result", x.ask(0, 1), 1037);

        GrainHost y = new GrainHost();
        Op.steps(y, 0, 0, Op.SET, 7, 0, Op.TELL, 8, 1, Op.SET, 1000, 0, Op.KEEP, 0, 0);
        Op.steps(y, 1, 1, Op.TAKE, 0, 0);
        y.call(0, 0, 0);
        y.run(2);
        check.due("one who tells goes on", y.ask(0, 1), 1000);
        check.due("what it told stays", y.request(0, 4), 7);
        y.run(2);
        check.due("and is done", y.grain(8, 1), 7);
        check.due("without coming back", y.count(2), 0);
    }

    private static void saving(Check check) {
        GrainHost x = done(0, Op.ADD, 5, 0, Op.SAVE, 0, 0, Op.ADD, 5, 0, Op.SAVE, 0, 0, Op.ADD, 1, 0);
        check.due("stored", x.grain(0, 6), 10);
        check.due("twice", x.grain(0, 7), 2);
        check.due("the state goes on", x.grain(0, 1), 11);
    }

    private static void timersAndReminders(Check check) {
        GrainHost x = done(0, Op.TIMER, 9, 0, Op.TIMER, 50, 0, Op.REMIND, 9, 0, Op.REMIND, 7, 0);
        check.due("the later timer", x.grain(0, 4), 50);
        check.due("the later reminder", x.grain(0, 9), 7);
        check.due("ticks to it", x.grain(0, 8), 7);
        x.tick(3);
        x.method(0, 0, false, false);
        Op.steps(x, 0, 0, Op.TIMER, 0, 0, Op.REMIND, 6, 0);
        x.call(0, 0, 0);
        x.run(1);
        check.due("no timer", x.grain(0, 4), 0);
        check.due("the reminder from now on", x.grain(0, 8), 6);
        x.method(0, 0, false, false);
        Op.steps(x, 0, 0, Op.REMIND, 0, 0);
        x.call(0, 0, 0);
        x.run(1);
        check.due("no reminder", x.grain(0, 8), 0);
        check.due("none each", x.grain(0, 9), 0);
        x.tick(20);
        check.due("nothing comes", x.count(6), 0);
    }

    private static void skipping(Check check) {
        int[] below = {Op.SET, -1, 0, Op.LET, 0, 0, Op.SET, 0, 0};
        int[] rest = {Op.ADD, 1, 0, Op.ADD, 10, 0, Op.ADD, 100, 0};
        check.due("SKIP 1", done(0, joined(below, Op.SKIP, 1, rest)).ask(0, 1), 110);
        check.due("SKIP 2", done(0, joined(below, Op.SKIP, 2, rest)).ask(0, 1), 100);
        check.due("SKIP 3", done(0, joined(below, Op.SKIP, 3, rest)).ask(0, 1), 0);
        check.due("SKIP past the end", done(0, joined(below, Op.SKIP, 7, rest)).ask(0, 1), 0);
        check.due("SKIP past the end ends it", done(0, joined(below, Op.SKIP, 7, rest)).ask(0, 0), 1);
        int[] zero = {Op.SET, 0, 0, Op.LET, 0, 0, Op.SET, 0, 0};
        check.due("SKIP with 0", done(0, joined(zero, Op.SKIP, 2, rest)).ask(0, 1), 111);
        int[] above = {Op.SET, 1, 0, Op.LET, 0, 0, Op.SET, 0, 0};
        check.due("SKIP with 1", done(0, joined(above, Op.SKIP, 2, rest)).ask(0, 1), 111);
    }

    private static int[] joined(int[] first, int op, int a, int[] rest) {
        int[] all = java.util.Arrays.copyOf(first, first.length + 3 + rest.length);
        all[first.length] = op;
        all[first.length + 1] = a;
        System.arraycopy(rest, 0, all, first.length + 3, rest.length);
        return all;
    }

    private static void failing(Check check) {
        GrainHost x = done(0, Op.ADD, 5, 0, Op.FAIL, 99, 0, Op.CATCH, 0, 0, Op.ADD, 5, 0);
        check.due("FAIL is not caught", x.ask(0, 0), 2);
        check.due("its code", x.ask(0, 1), 99);
        check.due("the state stays", x.grain(0, 1), 5);
        GrainHost y = new GrainHost();
        Op.steps(y, 0, 0, Op.SAVE, 0, 0, Op.CATCH, 0, 0, Op.ADD, 5, 0);
        y.fails(1);
        y.call(0, 0, 0);
        y.run(40);
        check.due("SAVE is not caught", y.ask(0, 1), 101);
    }
}
