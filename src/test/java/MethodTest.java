/** Promise 3. */
public final class MethodTest {
    public static void main(String[] args) {
        Check check = new Check();
        answers(check);
        openLetsIn(check);
        readingLetsIn(check);
        check.finish();
    }

    private static void answers(Check check) {
        GrainHost x = new GrainHost();
        for (int i = 0; i < 8; i++) {
            x.step(2, 3, Op.ADD, 1, 0);
        }
        check.due("method had", x.method(2, 3, true, true), 8);
        check.due("method has none then", x.method(2, 3, false, false), 0);
        check.due("step from the first again", x.step(2, 3, Op.ADD, 1, 0), 1);
        int[][] wrong = {{-1, 0}, {4, 0}, {0, -1}, {0, 4}, {Integer.MIN_VALUE, 0}, {0, Integer.MAX_VALUE}};
        for (int[] km : wrong) {
            check.due("method(" + km[0] + ", " + km[1] + ")", x.method(km[0], km[1], false, false), -1);
        }
        x.call(16, 3, 0);
        check.due("method while a request waits", x.method(2, 3, true, true), -3);
        check.due("method refused before busy", x.method(4, 3, true, true), -1);
        x.run(2);
        check.due("its step is there still", x.ask(0, 1), 1);
        check.due("method when it is over", x.method(2, 3, true, true), 1);
    }

    private static void openLetsIn(Check check) {
        GrainHost x = new GrainHost();
        x.method(0, 1, true, false);
        x.step(0, 0, Op.YIELD, 0, 0);
        x.call(0, 0, 0);
        x.call(0, 0, 0);
        x.call(0, 1, 0);
        x.run(1);
        check.due("first is ready", x.request(0, 1), 1);
        check.due("second waits", x.request(1, 1), 0);
        check.due("the open one passes it", x.request(2, 1), 1);
        check.due("line", x.line(1), 2);
    }

    private static void readingLetsIn(Check check) {
        GrainHost x = new GrainHost();
        x.method(0, 0, false, true);
        x.method(0, 1, false, true);
        x.step(0, 0, Op.YIELD, 0, 0);
        x.step(0, 2, Op.YIELD, 0, 0);
        x.call(0, 0, 0);
        x.call(0, 2, 0);
        x.call(0, 1, 0);
        x.run(1);
        check.due("a reading one begins", x.request(0, 1), 1);
        check.due("a writing one waits", x.request(1, 1), 0);
        check.due("another reading one passes it", x.request(2, 1), 1);
        x.run(3);
        check.due("both reading ones are over", x.count(2), 1);
        check.due("the writing one begins then", x.request(0, 1), 1);
        x.call(0, 0, 0);
        check.due("a reading one waits for the writing one", x.request(1, 1), 0);
    }
}
