/** Promise 13. */
public final class GrainTest {
    public static void main(String[] args) {
        Check check = new Check();
        GrainHost x = new GrainHost();
        x.kind(3, false, true);
        Op.steps(x, 3, 0, Op.SET, -5, 0, Op.SAVE, 0, 0, Op.TIMER, 9, 0, Op.REMIND, 8, 0, Op.YIELD, 0, 0);
        Op.steps(x, 3, 1, Op.LEAVE, 0, 0, Op.YIELD, 0, 0);
        row(check, x, "absent", 0, 0, 0, 0, 0, 0, 0, 0, 0, 0);
        x.call(30, 0, 0);
        x.call(30, 0, 0);
        x.call(30, 1, 0);
        row(check, x, "coming", 1, 0, 0, 3, 0, 0, 0, 0, 0, 0);
        x.run(1);
        row(check, x, "here", 2, 0, 1, 2, 0, 0, 0, 0, 0, 0);
        x.run(1);
        row(check, x, "with a state", 2, -5, 1, 2, 9, 0, -5, 1, 8, 8);
        x.run(2);
        x.tick(1);
        row(check, x, "a tick later", 2, -5, 1, 1, 8, 0, -5, 2, 7, 8);
        x.run(2);
        row(check, x, "leaving", 3, -5, 1, 0, 8, 0, -5, 2, 7, 8);
        x.run(1);
        row(check, x, "gone", 0, 0, 0, 0, 0, 0, -5, 3, 7, 8);
        x.call(30, 2, 0);
        x.run(2);
        x.tick(2);
        row(check, x, "idle", 2, -5, 0, 0, 0, 2, -5, 3, 5, 8);
        int[] wrongGrains = {-1, 32, Integer.MIN_VALUE, Integer.MAX_VALUE};
        for (int g : wrongGrains) {
            check.refused(x, "grain(" + g + ", 0)", () -> x.grain(g, 0), -1);
        }
        int[] wrongWhats = {-1, 10, Integer.MIN_VALUE, Integer.MAX_VALUE};
        for (int what : wrongWhats) {
            check.refused(x, "grain(30, " + what + ")", () -> x.grain(30, what), -1);
        }
        check.due("another grain", x.grain(31, 0), 0);
        check.finish();
    }

    private static void row(Check check, GrainHost x, String when, int... due) {
        for (int what = 0; what < due.length; what++) {
            check.due(when + ": grain(30, " + what + ")", x.grain(30, what), due[what]);
        }
    }
}
