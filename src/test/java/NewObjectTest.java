/** Promise 1. */
public final class NewObjectTest {
    public static void main(String[] args) {
        Check check = new Check();
        GrainHost x = new GrainHost();
        for (int g = 0; g < 32; g++) {
            for (int what = 0; what < 10; what++) {
                check.due("grain(" + g + ", " + what + ")", x.grain(g, what), 0);
            }
        }
        for (int what = 0; what < 9; what++) {
            check.due("count(" + what + ")", x.count(what), 0);
        }
        check.due("line(0)", x.line(0), -1);
        check.due("request(0, 0)", x.request(0, 0), -1);
        check.due("ask(0, 0)", x.ask(0, 0), 1L << 40);
        check.due("restart()", x.restart(), 0);
        check.due("forget()", x.forget(), 0);
        check.due("run(40)", x.run(40), 0);
        check.due("fails(0)", x.fails(0), 0);
        for (int k = 0; k < 4; k++) {
            for (int m = 0; m < 4; m++) {
                check.due("method(" + k + ", " + m + ")", x.method(k, m, false, false), 0);
            }
        }
        kindsAreNeitherReentrantNorKept(check);
        limitAndAgeAreNever(check);
        objectsShareNothing(check);
        check.finish();
    }

    private static void kindsAreNeitherReentrantNorKept(Check check) {
        for (int k = 0; k < 4; k++) {
            GrainHost x = new GrainHost();
            x.step(k, 0, Op.YIELD, 0, 0);
            x.step(k, 0, Op.LEAVE, 0, 0);
            x.call(8 * k, 0, 0);
            x.call(8 * k, 0, 0);
            x.run(2);
            check.due("the other one waits", x.grain(8 * k, 3), 1);
            x.run(40);
            check.due("gone", x.grain(8 * k, 0), 0);
            check.due("not stored", x.grain(8 * k, 7), 0);
        }
    }

    private static void limitAndAgeAreNever(Check check) {
        GrainHost x = new GrainHost();
        x.step(0, 0, Op.CALL, 8, 0);
        x.step(2, 0, Op.ADD, 1, 0);
        x.call(16, 0, 0);
        x.run(2);
        x.call(0, 0, 0);
        x.run(2);
        for (int i = 0; i < 10; i++) {
            x.tick(20);
        }
        check.due("still pending", x.ask(1, 0), 0);
        check.due("awaits still", x.request(0, 8), 200);
        check.due("idle still", x.grain(16, 5), 200);
    }

    private static void objectsShareNothing(Check check) {
        GrainHost one = new GrainHost();
        GrainHost other = new GrainHost();
        one.step(0, 0, Op.ADD, 1, 0);
        one.call(0, 0, 0);
        check.due("other object's line", other.line(0), -1);
        check.due("other object's method", other.method(0, 0, false, false), 0);
    }
}
