/** Promise 8. */
public final class ForgetTest {
    public static void main(String[] args) {
        Check check = new Check();
        answers(check);
        anyOneThatIsPending(check);
        anOldRequestTellsNoNewCall(check);
        newCallsBeginAnew(check);
        check.finish();
    }

    private static void answers(Check check) {
        GrainHost x = new GrainHost();
        x.step(0, 1, Op.FAIL, 9, 0);
        check.due("none", x.forget(), 0);
        x.call(0, 0, 0);
        x.call(1, 1, 0);
        x.run(3);
        check.refused(x, "forget while one is pending", () -> x.forget(), -3);
        x.run(1);
        check.due("a result and a failed one", x.forget(), 2);
        check.due("count(7)", x.count(7), 0);
        check.due("ask", x.ask(0, 0), 1L << 40);
        check.due("none then", x.forget(), 0);
    }

    private static void anyOneThatIsPending(Check check) {
        GrainHost x = new GrainHost();
        x.step(0, 0, Op.YIELD, 0, 0);
        x.call(0, 0, 0);
        x.call(8, 0, 0);
        x.run(4);
        check.due("the second is done", x.ask(1, 0), 1);
        check.refused(x, "forget while the first is pending", () -> x.forget(), -3);
    }

    private static void newCallsBeginAnew(Check check) {
        GrainHost x = new GrainHost();
        x.step(0, 0, Op.SET, 5, 0);
        x.call(0, 0, 0);
        x.tick(3);
        x.run(40);
        x.forget();
        x.limits(3, 0);
        x.call(0, 0, 0);
        check.due("no result yet", x.ask(0, 1), 0);
        x.tick(2);
        check.due("its ticks are counted from its own beginning", x.ask(0, 0), 0);
        x.tick(1);
        check.due("late then", x.ask(0, 1), 103);
    }

    private static void anOldRequestTellsNoNewCall(Check check) {
        GrainHost x = new GrainHost();
        x.limits(1, 0);
        x.step(0, 0, Op.SET, 5, 0);
        x.call(0, 0, 0);
        x.tick(1);
        check.due("late", x.ask(0, 1), 103);
        check.due("forget though its request is not over", x.forget(), 1);
        x.call(8, 0, 0);
        x.run(3);
        check.due("the old request is over", x.count(2), 1);
        check.due("the new call is pending", x.ask(0, 0), 0);
        x.run(1);
        check.due("and then has its own result", x.ask(0, 1), 0);
        check.due("of its own request", x.ask(0, 2), 1);
    }
}
