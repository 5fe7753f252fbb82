/** Promise 4: what step takes and refuses; what the steps do stands in RunTest. */
public final class StepTest {
    private static final int LEAST = Integer.MIN_VALUE, MOST = Integer.MAX_VALUE;

    public static void main(String[] args) {
        Check check = new Check();
        edgesOfNumbers(check);
        whatAStepDoesNotHave(check);
        order(check);
        check.finish();
    }

    private static void edgesOfNumbers(Check check) {
        int[][] good = {
            {0, 0, 0, LEAST, 0}, {3, 3, 0, MOST, 0}, {0, 0, 14, LEAST, 0}, {0, 0, 14, MOST, 0},
            {0, 0, 3, 0, 0}, {0, 0, 3, 31, 3}, {0, 0, 4, 0, 0}, {0, 0, 4, 31, 3},
            {0, 0, 7, 1, 0}, {0, 0, 7, 99, 0}, {0, 0, 8, 0, 0}, {0, 0, 8, 50, 0},
            {0, 0, 9, 0, 0}, {0, 0, 9, 50, 0}, {0, 0, 12, 1, 0}, {0, 0, 12, 7, 0}};
        int[][] wrong = {
            {-1, 0, 0, 0, 0}, {4, 0, 0, 0, 0}, {0, -1, 0, 0, 0}, {0, 4, 0, 0, 0},
            {0, 0, -1, 0, 0}, {0, 0, 15, 0, 0}, {0, 0, LEAST, 1, 1}, {0, 0, MOST, 1, 1},
            {0, 0, 3, -1, 0}, {0, 0, 3, 32, 0}, {0, 0, 3, 0, -1}, {0, 0, 3, 0, 4},
            {0, 0, 4, -1, 0}, {0, 0, 4, 32, 0}, {0, 0, 4, 0, -1}, {0, 0, 4, 0, 4},
            {0, 0, 7, 0, 0}, {0, 0, 7, 100, 0}, {0, 0, 8, -1, 0}, {0, 0, 8, 51, 0},
            {0, 0, 9, -1, 0}, {0, 0, 9, 51, 0}, {0, 0, 12, 0, 0}, {0, 0, 12, 8, 0}};
        for (int[] s : good) {
            check.due("step" + java.util.Arrays.toString(s), stepOnNew(s), 1);
        }
        for (int[] s : wrong) {
            check.due("step" + java.util.Arrays.toString(s), stepOnNew(s), -1);
        }
    }

    private static int stepOnNew(int[] s) {
        return new GrainHost().step(s[0], s[1], s[2], s[3], s[4]);
    }

    private static void whatAStepDoesNotHave(Check check) {
        int[] withoutB = {0, 7, 8, 9, 12, 14};
        for (int op : withoutB) {
            check.due("b of op " + op, new GrainHost().step(0, 0, op, 1, MOST), 1);
        }
        int[] withoutBoth = {1, 2, 5, 6, 10, 11, 13};
        for (int op : withoutBoth) {
            check.due("a and b of op " + op, new GrainHost().step(0, 0, op, LEAST, MOST), 1);
        }
    }

    private static void order(Check check) {
        GrainHost x = new GrainHost();
        for (int i = 1; i <= 8; i++) {
            check.due("step " + i, x.step(1, 2, Op.ADD, 1, 0), i);
        }
        check.due("a ninth", x.step(1, 2, Op.ADD, 1, 0), -2);
        check.due("refused before full", x.step(1, 2, 15, 1, 0), -1);
        check.due("another method", x.step(1, 3, Op.ADD, 1, 0), 1);
        check.due("another kind", x.step(2, 2, Op.ADD, 1, 0), 1);
        x.call(8, 2, 0);
        check.due("busy before full", x.step(1, 2, Op.ADD, 1, 0), -3);
        check.due("refused before busy", x.step(1, 2, Op.FAIL, 0, 0), -1);
        x.run(2);
        check.due("all eight were done", x.ask(0, 1), 8);
        check.due("full still", x.step(1, 2, Op.ADD, 1, 0), -2);
    }
}
