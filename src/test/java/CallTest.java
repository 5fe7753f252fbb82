/** Promise 7. */
public final class CallTest {
    public static void main(String[] args) {
        Check check = new Check();
        numbers(check);
        wrongNumbers(check);
        twelveAtMost(check);
        thirtyRequestsAtMost(check);
        check.finish();
    }

    private static void numbers(Check check) {
        GrainHost x = new GrainHost();
        Op.steps(x, 0, 0, Op.TELL, 8, 0, Op.TELL, 16, 0);
        check.due("first", x.call(0, 0, 5), 0);
        x.run(40);
        check.due("the number of the outside call, not of its request", x.call(31, 3, -7), 1);
        check.due("its request", x.ask(1, 2), 3);
        check.due("its grain", x.request(0, 2), 31);
        check.due("its method", x.request(0, 3), 3);
        check.due("its arg", x.request(0, 4), -7);
        check.due("its grain comes", x.grain(31, 0), 1);
        check.due("it waits there", x.grain(31, 3), 1);
        x.run(40);
        x.forget();
        check.due("from the first number again", x.call(0, 0, 5), 0);
    }

    private static void wrongNumbers(Check check) {
        GrainHost x = new GrainHost();
        int[][] wrong = {{-1, 0}, {32, 0}, {0, -1}, {0, 4}, {Integer.MIN_VALUE, 0}, {0, Integer.MAX_VALUE}};
        for (int[] w : wrong) {
            check.refused(x, "call(" + w[0] + ", " + w[1] + ")", () -> x.call(w[0], w[1], 0), -1);
        }
    }

    private static void twelveAtMost(Check check) {
        GrainHost x = new GrainHost();
        for (int c = 0; c < 12; c++) {
            check.due("call", x.call(c, 0, 0), c);
        }
        check.refused(x, "a thirteenth", () -> x.call(0, 0, 0), -2);
        check.refused(x, "refused before full", () -> x.call(32, 0, 0), -1);
        x.run(40);
        check.refused(x, "full till they are forgotten", () -> x.call(0, 0, 0), -2);
        x.forget();
        check.due("room again", x.call(0, 0, 0), 0);
    }

    private static void thirtyRequestsAtMost(Check check) {
        GrainHost x = new GrainHost();
        for (int i = 0; i < 8; i++) {
            x.step(0, 0, Op.TELL, 0, 0);
        }
        x.call(0, 0, 0);
        x.run(5);
        check.due("four turns with seven more each", x.count(2), 29);
        check.due("a thirtieth request", x.call(24, 0, 0), 1);
        check.refused(x, "a thirty-first request", () -> x.call(24, 0, 0), -2);
    }
}
