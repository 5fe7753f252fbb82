/** Promise 15. */
public final class LineTest {
    public static void main(String[] args) {
        Check check = new Check();
        mixed(check);
        itsRowIsUsedAgain(check);
        check.finish();
    }

    private static void mixed(Check check) {
        GrainHost x = new GrainHost();
        x.call(31, 0, 0);
        x.call(0, 0, 0);
        x.call(1, 0, 0);
        check.due("grain 31", x.line(0), -33);
        check.due("grain 0", x.line(1), -2);
        check.due("grain 1", x.line(2), -3);
        int[] wrong = {-1, 3, 61, 62, Integer.MIN_VALUE, Integer.MAX_VALUE};
        for (int k : wrong) {
            check.refused(x, "line(" + k + ")", () -> x.line(k), -1);
        }
        x.run(1);
        check.due("moved up", x.line(0), -2);
        check.due("a request at the back", x.line(2), 0);
        x.run(2);
        for (int k = 0; k < 3; k++) {
            check.due("requests", x.line(k), k);
        }
        x.run(3);
        check.due("empty", x.line(0), -1);
    }

    private static void itsRowIsUsedAgain(Check check) {
        GrainHost x = new GrainHost();
        x.step(0, 0, Op.YIELD, 0, 0);
        for (int round = 0; round < 20; round++) {
            int first = x.count(1);
            for (int g = 0; g < 8; g++) {
                x.call(g, 0, 0);
            }
            if (round == 0) {
                x.run(8);
            }
            x.run(3);
            for (int k = 0; k < 8; k++) {
                check.due("round " + round + " line(" + k + ")", x.line(k), first + (k + 3) % 8);
            }
            x.run(40);
            x.forget();
        }
    }
}
