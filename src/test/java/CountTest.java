/** Promise 16. */
public final class CountTest {
    public static void main(String[] args) {
        Check check = new Check();
        GrainHost x = new GrainHost();
        x.step(0, 0, Op.TELL, 8, 0);
        x.step(0, 1, Op.LEAVE, 0, 0);
        x.fails(4);
        x.call(0, 0, 0);
        x.call(1, 0, 0);
        row(check, x, "two calls", 0, 2, 2, 0, 0, 0, 2, 2, 4);
        x.run(1);
        row(check, x, "one came", 0, 2, 2, 1, 1, 1, 2, 2, 4);
        x.run(2);
        row(check, x, "it told", 0, 3, 2, 3, 2, 2, 2, 2, 4);
        x.tick(6);
        x.run(40);
        row(check, x, "all done", 6, 4, 0, 7, 3, 3, 0, 2, 4);
        x.call(0, 1, 0);
        x.run(40);
        row(check, x, "one went", 6, 5, 0, 8, 2, 3, 0, 3, 4);
        x.call(0, 1, 0);
        x.run(1);
        row(check, x, "and came again", 6, 6, 1, 9, 3, 4, 1, 4, 4);
        x.restart();
        row(check, x, "restarted", 6, 6, 0, 9, 0, 4, 0, 4, 4);
        x.forget();
        x.fails(0);
        row(check, x, "forgotten", 6, 6, 0, 9, 0, 4, 0, 0, 0);
        int[] wrong = {-1, 9, Integer.MIN_VALUE, Integer.MAX_VALUE};
        for (int what : wrong) {
            check.refused(x, "count(" + what + ")", () -> x.count(what), -1);
        }
        check.finish();
    }

    private static void row(Check check, GrainHost x, String when, int... due) {
        for (int what = 0; what < due.length; what++) {
            check.due(when + ": count(" + what + ")", x.count(what), due[what]);
        }
    }
}
