/** Promise 12. */
public final class AskTest {
    private static final long NOTHING = 1L << 40;

    public static void main(String[] args) {
        Check check = new Check();
        GrainHost x = new GrainHost();
        x.step(0, 0, Op.TAKE, 0, 0);
        Op.steps(x, 0, 1, Op.TELL, 9, 0, Op.FAIL, 33, 0);
        check.due("none", x.ask(0, 0), NOTHING);
        x.call(0, 1, 0);
        x.run(40);
        x.call(0, 0, Integer.MIN_VALUE);
        x.call(1, 0, 0);
        x.run(1);
        check.due("failed", x.ask(0, 0), 2);
        check.due("code", x.ask(0, 1), 33);
        check.due("request", x.ask(0, 2), 0);
        check.due("has a result", x.ask(1, 0), 1);
        check.due("result", x.ask(1, 1), Integer.MIN_VALUE);
        check.due("request of the second", x.ask(1, 2), 2);
        check.due("pending", x.ask(2, 0), 0);
        check.due("no result yet", x.ask(2, 1), 0);
        check.due("request of the third", x.ask(2, 2), 3);
        int[] wrongCalls = {-1, 3, 11, 12, Integer.MIN_VALUE, Integer.MAX_VALUE};
        for (int c : wrongCalls) {
            check.refused(x, "ask(" + c + ", 0)", () -> x.ask(c, 0), NOTHING);
        }
        int[] wrongWhats = {-1, 3, Integer.MIN_VALUE, Integer.MAX_VALUE};
        for (int what : wrongWhats) {
            check.refused(x, "ask(0, " + what + ")", () -> x.ask(0, what), NOTHING);
        }
        x.run(40);
        check.due("a result of 0", x.ask(2, 0), 1);
        x.forget();
        check.due("forgotten", x.ask(0, 2), NOTHING);
        check.finish();
    }
}
