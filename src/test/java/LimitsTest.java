/** Promise 5. */
public final class LimitsTest {
    public static void main(String[] args) {
        Check check = new Check();
        answers(check);
        refusedChangesNothing(check);
        changedWhileSomethingAwaits(check);
        ageIsFollowed(check);
        check.finish();
    }

    private static void answers(Check check) {
        GrainHost x = new GrainHost();
        check.due("limits(0, 0)", x.limits(0, 0), true);
        check.due("limits(100, 100)", x.limits(100, 100), true);
        int[][] wrong = {{-1, 0}, {101, 0}, {0, -1}, {0, 101}, {Integer.MIN_VALUE, 0}, {0, Integer.MAX_VALUE}};
        for (int[] w : wrong) {
            check.due("limits(" + w[0] + ", " + w[1] + ")", x.limits(w[0], w[1]), false);
        }
        x.call(0, 0, 0);
        check.due("limits while a request is not over", x.limits(1, 1), true);
    }

    private static void refusedChangesNothing(Check check) {
        GrainHost x = new GrainHost();
        x.limits(2, 2);
        x.limits(1, 101);
        x.limits(-1, 1);
        x.call(0, 0, 0);
        x.tick(1);
        check.due("pending", x.ask(0, 0), 0);
        x.tick(1);
        check.due("late", x.ask(0, 1), 103);
    }

    private static void changedWhileSomethingAwaits(Check check) {
        GrainHost x = new GrainHost();
        x.step(0, 0, Op.CALL, 8, 0);
        x.call(0, 0, 0);
        x.run(2);
        x.tick(5);
        x.limits(6, 0);
        check.due("nothing is late before a tick", x.ask(0, 0), 0);
        x.limits(2, 0);
        x.tick(1);
        check.due("more than the limit is late", x.ask(0, 1), 103);
        check.due("only the called one is left", x.request(0, 0), 1);
        check.due("one", x.count(2), 1);
    }

    private static void ageIsFollowed(Check check) {
        GrainHost x = new GrainHost();
        x.call(3, 0, 0);
        x.run(2);
        x.tick(9);
        check.due("idle", x.grain(3, 5), 9);
        x.limits(0, 100);
        x.tick(1);
        check.due("here still", x.grain(3, 0), 2);
        x.limits(0, 4);
        x.tick(1);
        check.due("gone", x.grain(3, 0), 0);
    }
}
