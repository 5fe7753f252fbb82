/** Promise 14. */
public final class RequestTest {
    public static void main(String[] args) {
        Check check = new Check();
        GrainHost x = new GrainHost();
        Op.steps(x, 0, 2, Op.SET, 6, 0, Op.LET, 0, 0, Op.CALL, 8, 3);
        Op.steps(x, 1, 3, Op.YIELD, 0, 0);
        x.call(4, 0, 0);
        x.run(2);
        x.call(5, 2, -9);
        row(check, x, 0, "waits", 1, 0, 5, 2, -9, 0, 0, -1, 0, 1);
        x.run(1);
        row(check, x, 0, "ready", 1, 1, 5, 2, -9, 0, 0, -1, 0, 1);
        x.run(1);
        x.call(5, 1, 4);
        row(check, x, 0, "awaits", 1, 2, 5, 2, -9, 6, 3, 2, 0, 1);
        row(check, x, 1, "called", 2, 0, 8, 3, 6, 0, 0, -1, 0, 2);
        row(check, x, 2, "another waits", 3, 0, 5, 1, 4, 0, 0, -1, 0, 1);
        x.tick(7);
        row(check, x, 0, "awaits still", 1, 2, 5, 2, -9, 6, 3, 2, 7, 1);
        x.run(2);
        row(check, x, 1, "behind a step", 2, 1, 8, 3, 6, 0, 1, -1, 0, 2);
        x.run(1);
        row(check, x, 0, "has the result", 1, 1, 5, 2, -9, 0, 3, -1, 0, 1);
        row(check, x, 1, "moved up", 3, 0, 5, 1, 4, 0, 0, -1, 0, 1);
        int[] wrongPlaces = {-1, 2, 29, 30, Integer.MIN_VALUE, Integer.MAX_VALUE};
        for (int k : wrongPlaces) {
            check.refused(x, "request(" + k + ", 0)", () -> x.request(k, 0), -1);
        }
        int[] wrongWhats = {-1, 10, Integer.MIN_VALUE, Integer.MAX_VALUE};
        for (int what : wrongWhats) {
            check.refused(x, "request(0, " + what + ")", () -> x.request(0, what), -1);
        }
        x.run(40);
        check.due("none left", x.request(0, 0), -1);
        check.finish();
    }

    private static void row(Check check, GrainHost x, int k, String when, int... due) {
        for (int what = 0; what < due.length; what++) {
            check.due(when + ": request(" + k + ", " + what + ")", x.request(k, what), due[what]);
        }
    }
}
