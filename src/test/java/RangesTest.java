import java.util.function.Consumer;
import java.util.function.IntToLongFunction;

/**
 * The range of each number that a call takes: the last that is taken and the first that is refused,
 * on each side, and numbers far outside. What is refused changes nothing.
 */
public final class RangesTest {
    private static final int LEAST = Integer.MIN_VALUE, MOST = Integer.MAX_VALUE;
    private static final long NOTHING = 1L << 40;

    private final Check check = new Check();

    private interface Asking {
        long of(GrainHost x, int n);
    }

    public static void main(String[] args) {
        RangesTest test = new RangesTest();
        test.kind();
        test.method();
        test.step();
        test.stepNumbers();
        test.stepTakesAny();
        test.notLookedAt();
        test.limits();
        test.fails();
        test.call();
        test.run();
        test.tick();
        test.ask();
        test.grain();
        test.request();
        test.line();
        test.count();
        test.check.finish();
    }

    /** Numbers outside a range: next to it, farther off, and those that look like ones within it. */
    private static int[] outside(int least, int most) {
        int[] far = {LEAST, LEAST + 1, MOST - 1, MOST, least - 256, most + 256, least - 65536, most + 65536,
            LEAST + least, LEAST + most, ~most};
        int[] all = java.util.Arrays.copyOf(far, far.length + 6);
        for (int i = 1; i <= 3; i++) {
            all[far.length + 2 * i - 2] = least - i;
            all[far.length + 2 * i - 1] = most + i;
        }
        return java.util.Arrays.stream(all).filter(n -> n < least || n > most).distinct().toArray();
    }

    private void taken(String name, Consumer<GrainHost> place, int least, int most, Asking call, IntToLongFunction due) {
        for (int n = least; n <= most; n++) {
            GrainHost x = new GrainHost();
            place.accept(x);
            check.due(name + ", " + n, call.of(x, n), due.applyAsLong(n));
        }
    }

    private void refused(String name, Consumer<GrainHost> place, int least, int most, Asking call, long refusal) {
        for (int n : outside(least, most)) {
            Twins.refused(check, place, name + ", " + n, x -> call.of(x, n), refusal);
        }
    }

    /** Every number of a range is taken by a new object, and none outside it anywhere. */
    private void range(String name, int least, int most, Asking call, IntToLongFunction due, long refusal) {
        taken(name, x -> { }, least, most, call, due);
        refused(name + " where nothing stands", Places::idle, least, most, call, refusal);
        refused(name + " where requests stand", Places::busy, least, most, call, refusal);
    }

    /** "False if k is not 0..3" */
    private void kind() {
        for (int flags = 0; flags < 4; flags++) {
            boolean reentrant = flags % 2 == 1;
            boolean kept = flags / 2 == 1;
            range("kind k", 0, 3, (x, n) -> x.kind(n, reentrant, kept) ? 1 : 0, n -> 1, 0);
        }
    }

    /** "REFUSED if k or m is not 0..3" */
    private void method() {
        for (int flags = 0; flags < 4; flags++) {
            boolean open = flags % 2 == 1;
            boolean reading = flags / 2 == 1;
            range("method k", 0, 3, (x, n) -> x.method(n, 0, open, reading), n -> 0, -1);
            range("method m", 0, 3, (x, n) -> x.method(3, n, open, reading), n -> 0, -1);
        }
    }

    /** "REFUSED if k or m is not 0..3, op not 0..14" */
    private void step() {
        range("step k", 0, 3, (x, n) -> x.step(n, 0, Op.ADD, 1, 1), n -> 1, -1);
        range("step m", 0, 3, (x, n) -> x.step(3, n, Op.ADD, 1, 1), n -> 1, -1);
        range("step op", 0, 14, (x, n) -> x.step(0, 0, n, 1, 1), n -> 1, -1);
    }

    /** "a not 0..31 (CALL, TELL), 1..99 (FAIL), 0..50 (TIMER, REMIND) or 1..7 (SKIP), or b not 0..3 (CALL, TELL ..)" */
    private void stepNumbers() {
        range("CALL a", 0, 31, (x, n) -> x.step(0, 0, Op.CALL, n, 3), n -> 1, -1);
        range("TELL a", 0, 31, (x, n) -> x.step(0, 0, Op.TELL, n, 3), n -> 1, -1);
        range("CALL b", 0, 3, (x, n) -> x.step(0, 0, Op.CALL, 31, n), n -> 1, -1);
        range("TELL b", 0, 3, (x, n) -> x.step(0, 0, Op.TELL, 31, n), n -> 1, -1);
        range("FAIL a", 1, 99, (x, n) -> x.step(0, 0, Op.FAIL, n, 0), n -> 1, -1);
        range("TIMER a", 0, 50, (x, n) -> x.step(0, 0, Op.TIMER, n, 0), n -> 1, -1);
        range("REMIND a", 0, 50, (x, n) -> x.step(0, 0, Op.REMIND, n, 0), n -> 1, -1);
        range("SKIP a", 1, 7, (x, n) -> x.step(0, 0, Op.SKIP, n, 0), n -> 1, -1);
    }

    /** "ADD and SET take any a" */
    private void stepTakesAny() {
        int[] any = {LEAST, LEAST + 1, -1, 0, 1, 99, 100, MOST - 1, MOST};
        int[] ops = {Op.ADD, Op.SET};
        for (int a : any) {
            for (int op : ops) {
                GrainHost x = new GrainHost();
                check.due("op " + op + " takes " + a, x.step(0, 0, op, a, 0), 1);
                x.call(0, 0, 0);
                x.run(2);
                check.due("op " + op + " does " + a, x.ask(0, 1), a);
            }
        }
    }

    /** "what a STEP does not have is not looked at": it is taken, and it is as if it were 0. */
    private void notLookedAt() {
        int[] any = {LEAST, -1, 4, 8, 32, 51, 100, MOST};
        int[] withoutA = {Op.TAKE, Op.KEEP, Op.SAVE, Op.YIELD, Op.LEAVE, Op.CATCH, Op.LET};
        int[] withoutB = {Op.ADD, Op.TAKE, Op.KEEP, Op.SAVE, Op.YIELD, Op.FAIL, Op.TIMER, Op.REMIND, Op.LEAVE,
            Op.CATCH, Op.SKIP, Op.LET, Op.SET};
        for (int n : any) {
            for (int op : withoutA) {
                check.due("a of op " + op, new GrainHost().step(0, 0, op, n, 0), 1);
                Twins.alike(check, "a " + n + " of op " + op, x -> surrounded(x, op, 0, 0), x -> surrounded(x, op, n, 0));
            }
            for (int op : withoutB) {
                check.due("b of op " + op, new GrainHost().step(0, 0, op, 1, n), 1);
                Twins.alike(check, "b " + n + " of op " + op, x -> surrounded(x, op, 2, 0), x -> surrounded(x, op, 2, n));
            }
        }
    }

    /** A step between others that show what it did to the state and to R, and where it went on. */
    private static void surrounded(GrainHost x, int op, int a, int b) {
        Op.steps(x, 0, 0, Op.SET, -5, 0, Op.LET, 0, 0, op, a, b, Op.ADD, 10, 0, Op.YIELD, 0, 0, Op.ADD, 100, 0, Op.KEEP, 0, 0);
        x.call(0, 0, 3);
        x.call(0, 1, 3);
    }

    /** "LIMIT and AGE are so many TICKS (0..100 ..): true; false for other numbers." */
    private void limits() {
        range("limits limit", 0, 100, (x, n) -> x.limits(n, 5) ? 1 : 0, n -> 1, 0);
        range("limits age", 0, 100, (x, n) -> x.limits(5, n) ? 1 : 0, n -> 1, 0);
    }

    /** "The STORE FAILS the next n (0..20) times .. REFUSED for another n." */
    private void fails() {
        range("fails", 0, 20, (x, n) -> x.fails(n), n -> 0, -1);
        for (int n = 0; n <= 20; n++) {
            GrainHost x = new GrainHost();
            x.fails(n);
            check.due("count(8) behind fails(" + n + ")", x.count(8), n);
            check.due("fails(0) behind fails(" + n + ")", x.fails(0), n);
        }
    }

    /** "REFUSED if g is not 0..31 or m not 0..3"; any arg is taken. */
    private void call() {
        range("call g", 0, 31, (x, n) -> x.call(n, 3, 0), n -> 0, -1);
        range("call m", 0, 3, (x, n) -> x.call(31, n, 0), n -> 0, -1);
        int[] any = {LEAST, -1, 0, 1, MOST};
        for (int arg : any) {
            GrainHost x = new GrainHost();
            check.due("call takes arg " + arg, x.call(0, 0, arg), 0);
            check.due("its arg", x.request(0, 4), arg);
        }
    }

    /** "Up to n (1..40) TURNS .. REFUSED for another n." */
    private void run() {
        range("run", 1, 40, (x, n) -> x.run(n), n -> 0, -1);
        refused("run where 30 stand", Places::crowd, 1, 40, (x, n) -> x.run(n), -1);
    }

    /** "n (1..20) TICKS: the CLOCK then. REFUSED for another n." */
    private void tick() {
        range("tick", 1, 20, (x, n) -> x.tick(n), n -> n, -1);
    }

    /** "NOTHING if there is none, or for others." */
    private void ask() {
        refused("ask c, of none", x -> { }, 0, -1, (x, n) -> x.ask(n, 0), NOTHING);
        taken("ask c, of twelve", Places::twelveCalls, 0, 11, (x, n) -> x.ask(n, 0), n -> 1);
        for (int what = 0; what < 3; what++) {
            int asked = what;
            refused("ask c, of twelve", Places::twelveCalls, 0, 11, (x, n) -> x.ask(n, asked), NOTHING);
        }
        refused("ask what", Places::twelveCalls, 0, 2, (x, n) -> x.ask(11, n), NOTHING);
        refused("ask what", Places::crowdOfCalls, 0, 2, (x, n) -> x.ask(11, n), NOTHING);
    }

    /** "Of grain g what 0: .. 9: .. REFUSED for others." */
    private void grain() {
        for (int what = 0; what < 10; what++) {
            int asked = what;
            range("grain g", 0, 31, (x, n) -> x.grain(n, asked), n -> 0, -1);
        }
        range("grain what", 0, 9, (x, n) -> x.grain(31, n), n -> 0, -1);
    }

    /** "Of the k-th REQUEST (0 the first) of those that are not OVER .. REFUSED for others." */
    private void request() {
        refused("request k, of none", Places::idle, 0, -1, (x, n) -> x.request(n, 0), -1);
        taken("request k, of 30", Places::crowd, 0, 29, (x, n) -> x.request(n, 4), n -> n + 1);
        for (int what = 0; what < 10; what++) {
            int asked = what;
            refused("request k, of 30", Places::crowd, 0, 29, (x, n) -> x.request(n, asked), -1);
        }
        refused("request what", Places::crowd, 0, 9, (x, n) -> x.request(29, n), -1);
        refused("request what", Places::busy, 0, 9, (x, n) -> x.request(0, n), -1);
    }

    /** "REFUSED (-1) if there is none." */
    private void line() {
        refused("line k, of none", Places::idle, 0, -1, (x, n) -> x.line(n), -1);
        taken("line k, of 12", RangesTest::twelveComing, 0, 11, (x, n) -> x.line(n), n -> -2 - n);
        refused("line k, of 12", RangesTest::twelveComing, 0, 11, (x, n) -> x.line(n), -1);
    }

    private static void twelveComing(GrainHost x) {
        for (int g = 0; g < 12; g++) {
            x.call(g, 0, 0);
        }
    }

    /** "What 0: .. 8: .. REFUSED for others." */
    private void count() {
        range("count", 0, 8, (x, n) -> x.count(n), n -> 0, -1);
    }
}
