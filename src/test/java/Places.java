/** Places that a host can be brought to: idle, with requests of every sort, crowded, or full of calls. */
final class Places {
    private Places() {
    }

    /** Kinds, methods and steps of every sort, and ints in the store. */
    private static void furnish(GrainHost x) {
        boolean[] flags = {false, true};
        for (int k = 0; k < 4; k++) {
            x.kind(k, flags[k % 2], flags[k / 2]);
            for (int m = 0; m < 4; m++) {
                x.method(k, m, flags[m % 2], flags[m / 2]);
            }
            Op.steps(x, k, 0, Op.TAKE, 0, 0, Op.SAVE, 0, 0, Op.YIELD, 0, 0, Op.ADD, k, 0);
            Op.steps(x, k, 2, Op.SET, -4 - k, 0, Op.LET, 0, 0, Op.SKIP, 1, 0, Op.FAIL, 9 + k, 0);
            Op.steps(x, k, 3, Op.KEEP, 0, 0, Op.YIELD, 0, 0);
        }
        Op.steps(x, 0, 1, Op.CALL, 8, 0, Op.CATCH, 0, 0, Op.KEEP, 0, 0);
        Op.steps(x, 1, 1, Op.TELL, 16, 3, Op.YIELD, 0, 0);
        Op.steps(x, 2, 1, Op.TIMER, 5, 0, Op.REMIND, 7, 0, Op.YIELD, 0, 0);
        Op.steps(x, 3, 1, Op.ADD, 6, 0, Op.YIELD, 0, 0, Op.LEAVE, 0, 0);
        for (int k = 0; k < 4; k++) {
            x.call(8 * k, 0, 40 + k);
            x.run(40);
        }
        x.forget();
    }

    /** Nothing is not over; grains are here, with a timer and a reminder; calls have ended. */
    static void idle(GrainHost x) {
        furnish(x);
        x.limits(60, 70);
        x.call(17, 1, 3);
        x.call(9, 2, 3);
        x.run(40);
        x.tick(2);
        x.fails(2);
    }

    /** Requests wait, are ready and await; calls are pending; the line holds both sorts. */
    static void busy(GrainHost x) {
        idle(x);
        x.fails(0);
        x.call(0, 1, 5);
        x.call(0, 0, 6);
        x.run(1);
        x.call(25, 1, 7);
        x.run(2);
        x.call(26, 0, 8);
        x.call(26, 1, 9);
        x.tick(1);
        x.fails(3);
    }

    /** There are 12 outside calls, and none is pending. */
    static void twelveCalls(GrainHost x) {
        idle(x);
        x.forget();
        x.fails(0);
        for (int c = 0; c < 12; c++) {
            x.call(c, 2, c);
        }
        x.run(40);
        x.run(40);
    }

    /** 30 requests are not over, and there are no outside calls. */
    static void crowd(GrainHost x) {
        idle(x);
        x.forget();
        waiting(x, 28, 0, 30);
    }

    /** 30 requests are not over, and there are 12 outside calls that are pending. */
    static void crowdOfCalls(GrainHost x) {
        idle(x);
        x.forget();
        waiting(x, 28, 0, 18);
        for (int c = 0; c < 12; c++) {
            x.call(c, 2, c);
        }
    }

    /**
     * So many requests for a method of a grain, of which no outside call is left, so that there may
     * be more than 12: each 12 take a tick, which is their limit.
     */
    static void waiting(GrainHost x, int g, int m, int n) {
        x.limits(1, 0);
        for (int i = 1; i <= n; i++) {
            x.call(g, m, i);
            if (i % 12 == 0 || i == n) {
                x.tick(1);
                x.forget();
            }
        }
        x.limits(0, 0);
    }
}
